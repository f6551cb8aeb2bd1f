/-! ITEMS without a BREAK between them stand apart -/
def kys (xs : List Int) (x : zIt) : List Int := (xs.drop (itF x).toNat).take (itN x).toNat
def adjR (r : zIt → zIt → Prop) (I : List zIt) : Prop := ∀ i x y, I[i]? = some x → I[i + 1]? = some y → r x y
theorem adjR_snoc {r : zIt → zIt → Prop} {I : List zIt} {y : zIt} (h : adjR r I) (hl : ∀ x, I.getLast? = some x → r x y) : adjR r (I ++ [y]) := by
  intro i x z h1 h2
  have hi2 := (List.getElem?_eq_some_iff.mp h2).1
  rw [List.length_append] at hi2
  have hi2 : i + 1 < I.length + 1 := hi2
  rw [List.getElem?_append_left (by omega)] at h1
  by_cases hi : i + 1 < I.length
  · rw [List.getElem?_append_left hi] at h2
    exact h i x z h1 h2
  · have e : i + 1 = I.length := by omega
    rw [List.getElem?_append_right (by omega), e, Nat.sub_self] at h2
    cases h2
    apply hl
    rw [List.getLast?_eq_getElem?, ← h1]
    congr 1
    omega
theorem adjR_init {r : zIt → zIt → Prop} {I : List zIt} {y : zIt} (h : adjR r (I ++ [y])) : adjR r I ∧ ∀ x, I.getLast? = some x → r x y := by
  refine ⟨fun i x z h1 h2 => h i x z ?_ ?_, fun x hx => ?_⟩
  · rw [List.getElem?_append_left (List.getElem?_eq_some_iff.mp h1).1]; exact h1
  · rw [List.getElem?_append_left (List.getElem?_eq_some_iff.mp h2).1]; exact h2
  · rw [List.getLast?_eq_getElem?] at hx
    have hl := (List.getElem?_eq_some_iff.mp hx).1
    refine h (I.length - 1) x y ?_ ?_
    · rw [List.getElem?_append_left hl]; exact hx
    · rw [show I.length - 1 + 1 = I.length by omega, List.getElem?_append_right (Nat.le_refl _), Nat.sub_self]; rfl
theorem adjR_mono {r r' : zIt → zIt → Prop} {I : List zIt} (h : adjR r I) (hm : ∀ x y, x ∈ I → y ∈ I → r x y → r' x y) : adjR r' I := fun i x y h1 h2 => hm x y (List.mem_of_getElem? h1) (List.mem_of_getElem? h2) (h i x y h1 h2)
def glu (D : zD) (xs : List Int) (w x : zIt) : Prop := itF w + itN w = itF x → ∃ p : Nat, 1 ≤ p ∧ p ≤ 2 ∧ (p : Int) ≤ itN x ∧ cGo (zPof D) (kys xs w ++ (kys xs x).take p) none = (cOf w :: (cGo (zPof D) ((kys xs x).take p) none).1, (cGo (zPof D) ((kys xs x).take p) none).2)
def gInv (D : zD) (xs : List Int) (s : zMS) : Prop := (∀ x ∈ msI s, itL x ≠ -2 → itM x ≠ -2 → 2 ≤ itN x) ∧ adjR (glu D xs) (msI s) ∧ (s.2.1 = none → ∀ x, (msI s).getLast? = some x → (itL x = -2 ∧ itM x = -2) ∨ itF x + itN x < (xs.length : Int))
theorem gInv_0 {D : zD} : gInv D [] ms0 := ⟨fun x hx => (by cases hx), fun i x y h1 h2 => (by cases h1), fun _ x hx => (by cases hx)⟩
theorem kys_ext {D : zD} {xs : List Int} {y : Int} {x : zIt} (h : itOk D xs x) : kys (xs ++ [y]) x = kys xs x := by
  obtain ⟨-, f, n, a1, a2, a3, a4, -⟩ := h
  unfold kys
  rw [a1, a2, Int.toNat_natCast, Int.toNat_natCast, sl_ext a4]
theorem glu_ext {D : zD} {xs : List Int} {y : Int} {w x : zIt} (hw : itOk D xs w) (hx : itOk D xs x) (h : glu D xs w x) : glu D (xs ++ [y]) w x := by
  unfold glu
  rw [kys_ext hw, kys_ext hx]
  exact h
theorem cGo_kys {D : zD} {xs : List Int} {x : zIt} (h : itOk D xs x) : cGo (zPof D) (kys xs x) none = cEnd x := by
  obtain ⟨-, f, n, a1, a2, a3, a4, a5, a6⟩ := h
  unfold kys
  rw [a1, a2, Int.toNat_natCast, Int.toNat_natCast]
  exact a6
theorem kys_len {D : zD} {xs : List Int} {x : zIt} (h : itOk D xs x) : ((kys xs x).length : Int) = itN x := by
  obtain ⟨-, f, n, a1, a2, a3, a4, -⟩ := h
  unfold kys
  rw [a1, a2, Int.toNat_natCast, Int.toNat_natCast, List.length_take, List.length_drop]
  omega
theorem gI_new {D : zD} {xs : List Int} {y : Int} {s : zMS} {x : zIt} (h : mInv D xs s) (hg : gInv D xs s) (hF : itF x = (xs.length : Int)) (hN : itN x = 1) (hLM : itL x = -2 ∨ itM x = -2) (hnew : ∀ w, s.2.1 = some w → cSign (zPof D) y (some (cOf w)) = cPut (cOf w) (cSign (zPof D) y none)) : (∀ z ∈ msI s ++ [x], itL z ≠ -2 → itM z ≠ -2 → 2 ≤ itN z) ∧ adjR (glu D (xs ++ [y])) (msI s ++ [x]) := by
  obtain ⟨h1, h2, h3, h4⟩ := h
  obtain ⟨g1, g2, g3⟩ := hg
  refine ⟨fun z hz q1 q2 => ?_, adjR_snoc (adjR_mono g2 (fun a b ha hb => glu_ext (h1 a ha) (h1 b hb))) (fun w hw => ?_)⟩
  · rcases List.mem_append.mp hz with hz | hz
    · exact g1 z hz q1 q2
    · rw [List.mem_singleton.mp hz] at q1 q2
      rcases hLM with q | q
      · exact absurd q q1
      · exact absurd q q2
  · intro hgap
    have hwm := last_mem hw
    have ex : kys (xs ++ [y]) x = [y] := by
      unfold kys
      rw [hF, hN, Int.toNat_natCast, List.drop_append_of_le_length (Nat.le_refl _), List.drop_of_length_le (Nat.le_refl _), List.nil_append]
      rfl
    refine ⟨1, Nat.le_refl _, by decide, by omega, ?_⟩
    rw [kys_ext (h1 w hwm), ex, show [y].take 1 = [y] from rfl, cGo_snoc, cGo_kys (h1 w hwm), cGo_one]
    cases ho : s.2.1 with
    | none =>
      rcases g3 ho w hw with q | q
      · have : cEnd w = ([cOf w], none) := if_pos q
        rw [this]
        rfl
      · omega
    | some w' =>
      have e1 := msI_some ho
      rw [e1, List.getLast?_concat] at hw
      cases hw
      have : cEnd w = ([], some (cOf w)) := if_neg (h4 w ho).2.1
      rw [this]
      dsimp only
      rw [hnew w ho]
      rfl
theorem take_pre {xs : List Int} {y : Int} {f n p : Nat} (h : f + n = xs.length) (hp : p ≤ n) : (((xs ++ [y]).drop f).take (n + 1)).take p = ((xs.drop f).take n).take p := by
  rw [List.take_take, List.take_take, Nat.min_eq_left (by omega), Nat.min_eq_left hp, sl_ext (by omega)]
theorem gI_join {D : zD} {xs : List Int} {y : Int} {s : zMS} {x x' : zIt} {role : Int} (h : mInv D xs s) (hg : gInv D xs s) (hs : s.2.1 = some x) (hF : itF x' = itF x) (hN : itN x' = itN x + 1) (hc : cOf x = cOf x → True) : gInv D (xs ++ [y]) (kJoin s x' role) := by
  obtain ⟨h1, h2, h3, h4⟩ := h
  obtain ⟨g1, g2, g3⟩ := hg
  have e1 := msI_some hs
  rw [e1] at h1 g1 g2
  obtain ⟨o1, o2, o3⟩ := h4 x hs
  have hxo := h1 x (List.mem_append.mpr (Or.inr (List.mem_singleton.mpr rfl)))
  obtain ⟨-, f, n, a1, a2, a3, a4, -⟩ := hxo
  have em : msI (kJoin s x' role) = s.1 ++ [x'] := rfl
  obtain ⟨i1, i2⟩ := adjR_init g2
  refine ⟨fun z hz q1 q2 => ?_, ?_, fun q => (by cases q)⟩
  · rw [em] at hz
    rcases List.mem_append.mp hz with hz | hz
    · exact g1 z (List.mem_append.mpr (Or.inl hz)) q1 q2
    · rw [List.mem_singleton.mp hz]; omega
  · rw [em]
    have hm : ∀ z, z ∈ s.1 → itOk D xs z := fun z hz => h1 z (List.mem_append.mpr (Or.inl hz))
    refine adjR_snoc (adjR_mono i1 (fun a b ha hb => glu_ext (hm a ha) (hm b hb))) (fun w hw => ?_)
    intro hgap
    obtain ⟨p, p1, p2, p3, p4⟩ := i2 w hw (by omega)
    have hwk := kys_ext (y := y) (hm w (last_mem hw))
    have pre : (kys (xs ++ [y]) x').take p = (kys xs x).take p := by
      unfold kys
      rw [hF, hN, a1, a2, Int.toNat_natCast, Int.toNat_natCast, show ((n : Int) + 1).toNat = n + 1 by omega]
      exact take_pre (by omega) (by omega)
    refine ⟨p, p1, p2, by omega, ?_⟩
    rw [hwk, pre]
    exact p4
theorem gI_steal {D : zD} {xs : List Int} {y : Int} {s : zMS} {x : zIt} {v : Nat} (hD : dOk D) (h : mInv D xs s) (hg : gInv D xs s) (hlen : s.2.2.1.length = xs.length) (hs : s.2.1 = some x) (hv : v < 26) (h3 : dS D v = 3) (ey : y = kk v) (hE : itE x ≠ -2) (hl : dNL D (dLa D (itE x)) ≠ -2) (hN3 : 3 ≤ itN x) : gInv D (xs ++ [y]) (kSteal (zPof D) v s x) := by
  have hM := mI_steal hD h hlen hs hv h3 ey hE hl
  obtain ⟨h1, h2, h3', h4⟩ := h
  obtain ⟨g1, g2, g3⟩ := hg
  have e1 := msI_some hs
  rw [e1] at h1 g1 g2
  obtain ⟨o1, o2, o3⟩ := h4 x hs
  have hxo := h1 x (List.mem_append.mpr (Or.inr (List.mem_singleton.mpr rfl)))
  have hxk := cGo_kys hxo
  obtain ⟨xR, f, n, a1, a2, a3, a4, -⟩ := hxo
  have em : msI (kSteal (zPof D) v s x) = s.1 ++ [(itL x, itM x, dCu D (itE x), itK x, itF x, itN x - 1)] ++ [(dNL D (dLa D (itE x)), dNM D v, -2, (dLa D (itE x) : Int), (s.2.2.1.length : Int) - 1, 2)] := rfl
  obtain ⟨i1, i2⟩ := adjR_init g2
  have hm : ∀ z, z ∈ s.1 → itOk D xs z := fun z hz => h1 z (List.mem_append.mpr (Or.inl hz))
  have hk1 := cGo_kys (hM.1 (itL x, itM x, dCu D (itE x), itK x, itF x, itN x - 1) (by rw [em]; exact List.mem_append.mpr (Or.inl (List.mem_append.mpr (Or.inr (List.mem_singleton.mpr rfl))))))
  have hk2 := cGo_kys (hM.1 (dNL D (dLa D (itE x)), dNM D v, -2, (dLa D (itE x) : Int), (s.2.2.1.length : Int) - 1, 2) (by rw [em]; exact List.mem_append.mpr (Or.inr (List.mem_singleton.mpr rfl))))
  obtain ⟨m, rfl⟩ : ∃ m, n = m + 1 := ⟨n - 1, by omega⟩
  have k1e : kys (xs ++ [y]) (itL x, itM x, dCu D (itE x), itK x, itF x, itN x - 1) = (xs.drop f).take m := by
    unfold kys
    show ((xs ++ [y]).drop (itF x).toNat).take (itN x - 1).toNat = _
    rw [a1, a2, Int.toNat_natCast, show (((m + 1 : Nat) : Int) - 1).toNat = m by omega, sl_ext (by omega)]
  have kxe : kys xs x = (xs.drop f).take (m + 1) := by
    unfold kys
    rw [a1, a2, Int.toNat_natCast, Int.toNat_natCast]
  have hlt : f + m < xs.length := by omega
  have k2e : kys (xs ++ [y]) (dNL D (dLa D (itE x)), dNM D v, -2, (dLa D (itE x) : Int), (s.2.2.1.length : Int) - 1, 2) = [xs[f + m], y] := by
    unfold kys
    show ((xs ++ [y]).drop ((s.2.2.1.length : Int) - 1).toNat).take 2 = _
    rw [show ((s.2.2.1.length : Int) - 1).toNat = f + m by omega, List.drop_append_of_le_length (by omega), List.drop_eq_getElem_cons hlt, List.drop_of_length_le (by omega)]
    rfl
  have kj : (xs.drop f).take m ++ [xs[f + m]] = (xs.drop f).take (m + 1) := by
    rw [take_s (xs := xs.drop f) (i := m) (by rw [List.length_drop]; omega), List.getElem_drop]
  refine ⟨fun z hz q1 q2 => ?_, ?_, fun q => (by cases q)⟩
  · rw [em] at hz
    rcases List.mem_append.mp hz with hz | hz
    · rcases List.mem_append.mp hz with hz | hz
      · exact g1 z (List.mem_append.mpr (Or.inl hz)) q1 q2
      · rw [List.mem_singleton.mp hz]
        show 2 ≤ itN x - 1
        omega
    · rw [List.mem_singleton.mp hz]
      show (2 : Int) ≤ 2
      omega
  · rw [em]
    refine adjR_snoc (adjR_snoc (adjR_mono i1 (fun a b ha hb => glu_ext (hm a ha) (hm b hb))) (fun w hw => ?_)) (fun w hw => ?_)
    · intro hgap
      have hgap : itF w + itN w = itF x := hgap
      obtain ⟨p, p1, p2, p3, p4⟩ := i2 w hw hgap
      refine ⟨p, p1, p2, ?_, ?_⟩
      · show (p : Int) ≤ itN x - 1
        omega
      · rw [kys_ext (hm w (last_mem hw)), k1e]
        rw [kxe] at p4
        have e2 : ((xs.drop f).take m).take p = ((xs.drop f).take (m + 1)).take p := by rw [List.take_take, List.take_take, Nat.min_eq_left (by omega), Nat.min_eq_left (by omega)]
        rw [e2]
        exact p4
    · rw [List.getLast?_concat] at hw
      cases hw
      intro _
      refine ⟨2, by decide, Nat.le_refl _, Int.le_refl _, ?_⟩
      have e2 : [xs[f + m], y].take 2 = [xs[f + m], y] := rfl
      rw [k2e] at hk2 ⊢
      rw [e2, hk2, k1e, show (xs.drop f).take m ++ [xs[f + m], y] = (xs.drop f).take m ++ [xs[f + m]] ++ [y] by rw [List.append_assoc]; rfl, kj, cGo_snoc, ← kxe, hxk]
      have ce : cEnd x = ([], some (cOf x)) := if_neg o2
      rw [ce, cEnd_mk (fun q => hl q.1), cOf_mk o2, cOf_open o2]
      dsimp only
      rw [ey, cSign_key hv (by omega), if_neg (by omega), if_pos h3]
      unfold cVow
      dsimp only
      have hR := xR.2.2.1.resolve_left hE
      rw [if_neg (fun q => hR.2.2.2 q.2), if_pos hE, if_neg (show ¬ pLo (zPof D) (pLa (zPof D) (itE x)) = -2 from hl)]
      rfl
