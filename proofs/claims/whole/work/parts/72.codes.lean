theorem zfind_pair {ps : List (Nat × Nat)} (hn : ps.Nodup) {j i : Nat} (hj : j < ps.length) : zfind (ps.map k2) (kk ps[j].1) (kk ps[j].2) i = ((i + j : Nat) : Int) := by
  induction ps generalizing i j with
  | nil => exact absurd hj (by simp)
  | cons q t ih =>
    rw [List.nodup_cons] at hn
    rw [List.map_cons, zfind]
    unfold k2
    cases j with
    | zero => rw [if_pos ⟨rfl, rfl⟩]; rfl
    | succ j =>
      have hj' : j < t.length := by simpa using hj
      have e : (q :: t)[j + 1] = t[j] := rfl
      rw [e]
      rw [if_neg]
      · have := ih hn.2 (i := i + 1) hj'
        unfold k2 at this
        rw [this]; omega
      · intro h
        rw [kk_inj, kk_inj] at h
        exact hn.1 (by rw [show q = t[j] from Prod.ext h.1 h.2]; exact List.getElem_mem hj')
def kTw (es : List (Int × Int)) (n : Nat) : List Int := [(es.getD n (-2, -2)).1, (es.getD n (-2, -2)).2].filter (fun y => decide (y ≠ -2))
theorem dSp_app {D : zD} {x : Int} : dSp D x = kTw (dTL D) (dCL D x).toNat ++ (kTw (dTM D) (dCM D x).toNat ++ kTw (dTE D) (dCE D x).toNat) := by
  unfold dSp dSl kTw
  rw [← List.filter_append, ← List.filter_append]
  rfl
theorem kTw_1 {es : List (Int × Int)} {n k : Nat} (h : es.getD n (-2, -2) = k1 k) : kTw es n = [kk k] := by
  unfold kTw
  rw [h]
  have : kk k ≠ -2 := by unfold kk; omega
  simp [k1, this]
theorem kTw_2 {es : List (Int × Int)} {n a b : Nat} (h : es.getD n (-2, -2) = (kk a, kk b)) : kTw es n = [kk a, kk b] := by
  unfold kTw
  rw [h]
  have h1 : kk a ≠ -2 := by unfold kk; omega
  have h2 : kk b ≠ -2 := by unfold kk; omega
  simp [h1, h2]
theorem dTL_get {D : zD} {n : Nat} (hn : n < dnL D) : (∃ h : n < (dLe D).length, (dTL D).getD n (-2, -2) = k1 (dLe D)[n]) ∨ ∃ h : n - (dLe D).length < (dT D).length, (dLe D).length ≤ n ∧ (dTL D).getD n (-2, -2) = (kk (dT D)[n - (dLe D).length], kk (dT D)[n - (dLe D).length]) := by
  unfold dTL
  rw [List.getD_eq_getElem?_getD]
  by_cases h : n < (dLe D).length
  · left
    refine ⟨h, ?_⟩
    rw [List.getElem?_append_left (by rw [List.length_map]; exact h), List.getElem?_map, List.getElem?_eq_getElem h]
    rfl
  · right
    have h2 : n - (dLe D).length < (dT D).length := by unfold dnL at hn; omega
    refine ⟨h2, by omega, ?_⟩
    rw [List.getElem?_append_right (by rw [List.length_map]; omega), List.length_map, List.getElem?_map, List.getElem?_eq_getElem h2]
    rfl
theorem dTM_get {D : zD} {n : Nat} (hn : n < dnM D) : (∃ h : n < (dV D).length, (dTM D).getD n (-2, -2) = k1 (dV D)[n]) ∨ ∃ h : n - (dV D).length < (dPV D).length, (dV D).length ≤ n ∧ (dTM D).getD n (-2, -2) = k2 (dPV D)[n - (dV D).length] := by
  unfold dTM
  rw [List.getD_eq_getElem?_getD]
  by_cases h : n < (dV D).length
  · left
    refine ⟨h, ?_⟩
    rw [List.getElem?_append_left (by rw [List.length_map]; exact h), List.getElem?_map, List.getElem?_eq_getElem h]
    rfl
  · right
    have h2 : n - (dV D).length < (dPV D).length := by unfold dnM at hn; omega
    refine ⟨h2, by omega, ?_⟩
    rw [List.getElem?_append_right (by rw [List.length_map]; omega), List.length_map, List.getElem?_map, List.getElem?_eq_getElem h2]
    rfl
theorem dTE_get {D : zD} {n : Nat} (hn : n < dnE D) : (n = 0 ∧ (dTE D).getD n (-2, -2) = (-2, -2)) ∨ (∃ h : n - 1 < (dEn D).length, 1 ≤ n ∧ (dTE D).getD n (-2, -2) = k1 (dEn D)[n - 1]) ∨ ∃ h : n - (1 + (dEn D).length) < (dPE D).length, 1 + (dEn D).length ≤ n ∧ (dTE D).getD n (-2, -2) = k2 (dPE D)[n - (1 + (dEn D).length)] := by
  have hl2 : ([(-2, -2)] ++ (dEn D).map k1 : List (Int × Int)).length = 1 + (dEn D).length := by rw [List.length_append, List.length_map]; rfl
  by_cases h0 : n = 0
  · left; subst h0; exact ⟨rfl, rfl⟩
  · right
    unfold dTE
    rw [List.getD_eq_getElem?_getD]
    by_cases h : n < 1 + (dEn D).length
    · left
      have h1 : n - 1 < (dEn D).length := by omega
      refine ⟨h1, by omega, ?_⟩
      rw [List.getElem?_append_left (by rw [hl2]; exact h), List.getElem?_append_right (by show 1 ≤ n; omega)]
      show (((dEn D).map k1)[n - 1]?).getD (-2, -2) = _
      rw [List.getElem?_map, List.getElem?_eq_getElem h1]
      rfl
    · right
      have h2 : n - (1 + (dEn D).length) < (dPE D).length := by unfold dnE at hn; omega
      refine ⟨h2, by omega, ?_⟩
      rw [List.getElem?_append_right (by rw [hl2]; omega), hl2, List.getElem?_map, List.getElem?_eq_getElem h2]
      rfl
theorem cLe_s {D : zD} {k : Nat} (h : cLe D k = true) : dS D k = 0 ∨ dS D k = 1 := by
  unfold cLe at h
  rw [Bool.or_eq_true, decide_eq_true_iff, decide_eq_true_iff] at h
  exact h
theorem cFi_s {D : zD} {k : Nat} (h : cFi D k = true) : dS D k = 1 ∨ dS D k = 2 := by
  unfold cFi at h
  rw [Bool.or_eq_true, decide_eq_true_iff, decide_eq_true_iff] at h
  exact h
theorem cVo_s {D : zD} {k : Nat} (h : cVo D k = true) : dS D k = 3 := of_decide_eq_true h
theorem go_lead {D : zD} (hD : dOk D) {k : Nat} (hk : k < 26) (hl : cLe D k = true) : cSign (zPof D) (kk k) none = ([], some (dNL D k, -2, -2, -2)) ∧ dNL D k ≠ -2 := by
  have hs := cLe_s hl
  obtain ⟨j, hj, _, e2⟩ := ixf_in (dLe_nd hD) (i := 0) (f := fun _ => -2) ((dLe_mem hD).mpr hl)
  have hn : dNL D k ≠ -2 := by
    show ixf (dLe D) 0 (fun _ => -2) k ≠ -2
    rw [e2]; omega
  refine ⟨?_, hn⟩
  rw [cSign_key hk (by omega), if_neg (by omega), if_neg (by omega)]
  show cFresh (zPof D) k = _
  unfold cFresh
  rw [if_neg (show ¬ pLo (zPof D) k = -2 from hn)]
  rfl
theorem kL_go {D : zD} (hD : dOk D) {n : Nat} (hn : n < dnL D) : kyOk D (kTw (dTL D) n) ∧ kTw (dTL D) n ≠ [] ∧ cGo (zPof D) (kTw (dTL D) n) none = ([], some ((n : Int), -2, -2, -2)) := by
  rcases dTL_get hn with ⟨h, e⟩ | ⟨h, h2, e⟩
  · rw [kTw_1 e]
    have hm := List.getElem_mem h
    have hc := (dLe_mem hD).mp hm
    have hk := (hD.1.1 _ (List.mem_filter.mp hm).1).1
    have hs := cLe_s hc
    refine ⟨fun y hy => ⟨_, hk, List.mem_singleton.mp hy, by omega⟩, by simp, ?_⟩
    rw [cGo_one, (go_lead hD hk hc).1]
    have := ixf_get (dLe_nd hD) (i := 0) (f := fun _ => -2) h
    rw [Nat.zero_add] at this
    rw [show dNL D (dLe D)[n] = (n : Int) from this]
  · rw [kTw_2 e]
    have hm := List.getElem_mem h
    obtain ⟨hk, hc⟩ := hD.1.2.2.2.1 _ hm
    have hs := cLe_s hc
    generalize ht : (dT D)[n - (dLe D).length] = t at *
    obtain ⟨g1, g2⟩ := go_lead hD hk hc
    have etw : dTw D t = (n : Int) := by
      have := ixf_get hD.2.1.2.2.2.1 (i := (dLe D).length) (f := fun _ => -2) h
      rw [ht] at this
      show ixf (dT D) (dLe D).length (fun _ => -2) t = _
      rw [this]; omega
    refine ⟨fun y hy => ?_, by simp, ?_⟩
    · rcases List.mem_cons.mp hy with hy | hy
      · exact ⟨t, hk, hy, by omega⟩
      · exact ⟨t, hk, List.mem_singleton.mp hy, by omega⟩
    · rw [cGo, cGo_one, g1]
      dsimp only
      rw [cSign_key hk (by omega), if_neg (by omega), if_neg (by omega)]
      unfold cCons
      dsimp only
      rw [if_neg g2, if_pos rfl, if_pos ⟨rfl, show pTw (zPof D) t ≠ -2 by show dTw D t ≠ -2; rw [etw]; omega⟩]
      show ([], some (dTw D t, -2, -2, -2)) = _
      rw [etw]
theorem kM_go {D : zD} (hD : dOk D) {n : Nat} (hn : n < dnM D) {l : Int} (hl : l ≠ -2) : kyOk D (kTw (dTM D) n) ∧ cGo (zPof D) (kTw (dTM D) n) (some (l, -2, -2, -2)) = ([], some (l, (n : Int), -2, -2)) := by
  have one : ∀ k, k < 26 → dS D k = 3 → cSign (zPof D) (kk k) (some (l, -2, -2, -2)) = ([], some (l, dNM D k, -2, -2)) := fun k hk h3 => by
    rw [cSign_key hk (by omega), if_neg (by omega), if_pos h3]
    unfold cVow
    dsimp only
    rw [if_pos ⟨hl, rfl⟩]
    rfl
  rcases dTM_get hn with ⟨h, e⟩ | ⟨h, h2, e⟩
  · rw [kTw_1 e]
    obtain ⟨hk, h3⟩ := hD.1.2.1 _ (List.getElem_mem h)
    refine ⟨fun y hy => ⟨_, hk, List.mem_singleton.mp hy, by omega⟩, ?_⟩
    rw [cGo_one, one _ hk h3]
    have := ixf_get hD.2.1.2.1 (i := 0) (f := fun _ => -2) h
    rw [Nat.zero_add] at this
    rw [show dNM D (dV D)[n] = (n : Int) from this]
  · have hm := List.getElem_mem h
    have hm' := List.mem_filter.mp hm
    obtain ⟨hka, hkb, hc⟩ := hD.1.2.2.2.2 _ hm'.1
    have hva := cVo_s hm'.2
    have zf := zfind_pair (List.Nodup.sublist List.filter_sublist hD.2.1.2.2.2.2) (i := (dV D).length) h
    have hzf : zfind ((dPV D).map k2) (kk (dPV D)[n - (dV D).length].1) (kk (dPV D)[n - (dV D).length].2) (dV D).length = (n : Int) := by
      have := zf
      rw [show (dV D).length + (n - (dV D).length) = n by omega] at this
      exact this
    clear zf
    generalize hq : (dPV D)[n - (dV D).length] = q at *
    have hvb : dS D q.2 = 3 := by
      rcases hc with hc | hc
      · exact cVo_s hc.2
      · have := cFi_s hc.1; omega
    rw [kTw_2 (show _ = (kk q.1, kk q.2) from e)]
    have hma : q.1 ∈ dV D := by rcases hD.2.2.2 q.1 with r | r | r | r <;> first | exact r.2 | omega
    obtain ⟨j, hj, ej, ea⟩ := ixf_in hD.2.1.2.1 (i := 0) (f := fun _ => -2) hma
    rw [Nat.zero_add] at ea
    have ea : dNM D q.1 = (j : Int) := ea
    have ed : (dTM D).drop (dV D).length = (dPV D).map k2 := by
      unfold dTM
      rw [List.drop_append_of_le_length (by rw [List.length_map]; exact Nat.le_refl _), List.drop_of_length_le (by rw [List.length_map]; exact Nat.le_refl _), List.nil_append]
    have eg : ((dTM D).getD j (0, 0)).1 = kk q.1 := by
      unfold dTM
      rw [List.getD_eq_getElem?_getD, List.getElem?_append_left (by rw [List.length_map]; exact hj), List.getElem?_map, List.getElem?_eq_getElem hj, ej]
      rfl
    have evp : dVp D (j : Int) q.2 = (n : Int) := by
      unfold dVp zwith
      rw [if_neg (by omega), Int.toNat_natCast, ed, eg]
      exact hzf
    refine ⟨fun y hy => ?_, ?_⟩
    · rcases List.mem_cons.mp hy with hy | hy
      · exact ⟨_, hka, hy, by omega⟩
      · exact ⟨_, hkb, List.mem_singleton.mp hy, by omega⟩
    · rw [cGo, cGo_one, one _ hka hva, ea]
      dsimp only
      rw [cSign_key hkb (by omega), if_neg (by omega), if_pos hvb]
      unfold cVow
      dsimp only
      rw [if_neg (by omega), if_neg (by omega), if_neg (show ¬ pVp (zPof D) (j : Int) q.2 = -2 by show ¬ dVp D (j : Int) q.2 = -2; rw [evp]; omega)]
      show ([], some (l, dVp D (j : Int) q.2, -2, -2)) = _
      rw [evp]
theorem kE_go {D : zD} (hD : dOk D) {n : Nat} (hn : n < dnE D) {l mm : Int} (hl : l ≠ -2) (hm2 : mm ≠ -2) : kyOk D (kTw (dTE D) n) ∧ cGo (zPof D) (kTw (dTE D) n) (some (l, mm, -2, -2)) = ([], some (l, mm, (if (n : Int) = 0 then -2 else (n : Int)), -2)) := by
  have one : ∀ k, k < 26 → cFi D k = true → cSign (zPof D) (kk k) (some (l, mm, -2, -2)) = ([], some (l, mm, dNE D k, -2)) ∧ dNE D k ≠ -2 := fun k hk hf => by
    have hs := cFi_s hf
    obtain ⟨j, hj, _, e2⟩ := ixf_in (dEn_nd hD) (i := 1) (f := fun _ => -2) ((dEn_mem hD).mpr hf)
    have hn : dNE D k ≠ -2 := by
      show ixf (dEn D) 1 (fun _ => -2) k ≠ -2
      rw [e2]; omega
    refine ⟨?_, hn⟩
    rw [cSign_key hk (by omega), if_neg (by omega), if_neg (by omega)]
    unfold cCons
    dsimp only
    have e3 : (if (-2 : Int) = -2 then pEo (zPof D) k else pEp (zPof D) (-2) k) = dNE D k := if_pos rfl
    rw [if_neg hl, if_neg hm2, e3, if_neg hn]
  rcases dTE_get hn with ⟨h0, e⟩ | ⟨h, h1, e⟩ | ⟨h, h1, e⟩
  · subst h0
    have : kTw (dTE D) 0 = [] := by unfold kTw; rw [e]; rfl
    rw [this]
    exact ⟨fun y hy => (by cases hy), rfl⟩
  · rw [kTw_1 e]
    have hm := List.getElem_mem h
    have hf := (dEn_mem hD).mp hm
    have hk := (hD.1.1 _ (List.mem_filter.mp hm).1).1
    have hs := cFi_s hf
    refine ⟨fun y hy => ⟨_, hk, List.mem_singleton.mp hy, by omega⟩, ?_⟩
    rw [cGo_one, (one _ hk hf).1]
    have := ixf_get (dEn_nd hD) (i := 1) (f := fun _ => -2) h
    rw [show dNE D (dEn D)[n - 1] = ((1 + (n - 1) : Nat) : Int) from this, if_neg (by omega), show 1 + (n - 1) = n by omega]
  · have hm := List.getElem_mem h
    obtain ⟨_, hfa, hfb, hka, hkb⟩ := dPE_mem hD hm
    have zf := zfind_pair (List.Nodup.sublist List.filter_sublist hD.2.1.2.2.2.2) (i := 1 + (dEn D).length) h
    have hzf : zfind ((dPE D).map k2) (kk (dPE D)[n - (1 + (dEn D).length)].1) (kk (dPE D)[n - (1 + (dEn D).length)].2) (1 + (dEn D).length) = (n : Int) := by
      have := zf
      rw [show 1 + (dEn D).length + (n - (1 + (dEn D).length)) = n by omega] at this
      exact this
    clear zf
    generalize hq : (dPE D)[n - (1 + (dEn D).length)] = q at *
    have hsa := cFi_s hfa
    have hsb := cFi_s hfb
    rw [kTw_2 (show _ = (kk q.1, kk q.2) from e)]
    obtain ⟨j, hj, ej, ea⟩ := ixf_in (dEn_nd hD) (i := 1) (f := fun _ => -2) ((dEn_mem hD).mpr hfa)
    have ea : dNE D q.1 = ((1 + j : Nat) : Int) := ea
    have ed : (dTE D).drop (1 + (dEn D).length) = (dPE D).map k2 := by
      unfold dTE
      have hl2 : ([(-2, -2)] ++ (dEn D).map k1 : List (Int × Int)).length = 1 + (dEn D).length := by rw [List.length_append, List.length_map]; rfl
      rw [← hl2, List.drop_append_of_le_length (Nat.le_refl _), List.drop_of_length_le (Nat.le_refl _), List.nil_append]
    have eg : ((dTE D).getD (1 + j) (0, 0)).1 = kk q.1 := by
      rw [dTE_single (by omega) (by omega)]
      show kk ((dEn D)[1 + j - 1]'(by omega)) = _
      rw [kk_inj, ← ej]
      congr 1
      omega
    have eep : dEp D ((1 + j : Nat) : Int) q.2 = (n : Int) := by
      unfold dEp zwith
      rw [if_neg (by omega), Int.toNat_natCast, ed, eg]
      exact hzf
    refine ⟨fun y hy => ?_, ?_⟩
    · rcases List.mem_cons.mp hy with hy | hy
      · exact ⟨_, hka, hy, by omega⟩
      · exact ⟨_, hkb, List.mem_singleton.mp hy, by omega⟩
    · rw [cGo, cGo_one, (one _ hka hfa).1, ea]
      dsimp only
      rw [cSign_key hkb (by omega), if_neg (by omega), if_neg (by omega)]
      unfold cCons
      dsimp only
      have e3 : (if ((1 + j : Nat) : Int) = -2 then pEo (zPof D) q.2 else pEp (zPof D) ((1 + j : Nat) : Int) q.2) = (n : Int) := by
        rw [if_neg (by omega)]; exact eep
      rw [if_neg hl, if_neg hm2, e3, if_neg (by omega), if_neg (by omega)]
      rfl
theorem code_kq {D : zD} {x : Int} (hD : dOk D) (hlk : dLacks D = false) (hx : dHas D x) : kqOk D (cCd D x, dSp D x) := by
  obtain ⟨r1, r2, r3⟩ := dC_rng hD hlk hx
  obtain ⟨a, ha⟩ : ∃ n : Nat, dCL D x = (n : Int) := ⟨(dCL D x).toNat, by omega⟩
  obtain ⟨b, hb⟩ : ∃ n : Nat, dCM D x = (n : Int) := ⟨(dCM D x).toNat, by omega⟩
  obtain ⟨c, hc⟩ : ∃ n : Nat, dCE D x = (n : Int) := ⟨(dCE D x).toNat, by omega⟩
  obtain ⟨l1, l2, l3⟩ := kL_go hD (n := a) (by omega)
  obtain ⟨m1, m2⟩ := kM_go hD (n := b) (l := (a : Int)) (by omega) (by omega)
  obtain ⟨e1, e2⟩ := kE_go hD (n := c) (l := (a : Int)) (mm := (b : Int)) (by omega) (by omega) (by omega)
  have es : dSp D x = kTw (dTL D) a ++ (kTw (dTM D) b ++ kTw (dTE D) c) := by rw [dSp_app, ha, hb, hc, Int.toNat_natCast, Int.toNat_natCast, Int.toNat_natCast]
  refine ⟨fun y hy => ?_, fun h => ?_, ?_⟩
  · have hy : y ∈ dSp D x := hy
    rw [es] at hy
    rcases List.mem_append.mp hy with hy | hy
    · exact l1 y hy
    · rcases List.mem_append.mp hy with hy | hy
      · exact m1 y hy
      · exact e1 y hy
  · have h : dSp D x = [] := h
    rw [es] at h
    exact l2 (List.append_eq_nil_iff.mp h).1
  · show cGo (zPof D) (dSp D x) none = _
    rw [es, cGo_app, l3]
    dsimp only
    rw [cGo_app, m2]
    dsimp only
    rw [e2]
    have h0 : ¬ ((cCd D x, dSp D x).1.1 = -2 ∧ (cCd D x, dSp D x).1.2.1 = -2) := by
      show ¬ (dCL D x = -2 ∧ dCM D x = -2)
      omega
    rw [if_neg h0]
    unfold cCd
    rw [ha, hb, hc]
    rfl
