/-! what every call keeps -/
def gK (g : zG) : Prop := gOk g ∧ (gU g ≠ 4 → gW g = -1)
theorem gK_A {g : zG} {r : Int} (h : gK g) : gK (gA g r).2 := ⟨gOk_w h.1, fun _ => rfl⟩
theorem gK_N {g : zG} {r : Int} (h : gK g) : gK (gN g r).2 := ⟨gOk_w h.1, fun _ => rfl⟩
theorem gK_NT {g : zG} {r : Int} (h : gK g) : gK (gNT g r).2 := ⟨gOk_0 h.1, fun _ => rfl⟩
theorem gK_AT {g : zG} {r : Int} (h : gK g) : gK (gAT g r).2 := ⟨gOk_0 h.1, fun _ => rfl⟩
theorem gK_act {g : zG} {D : zD} {T' R' : List Int} {C' : Nat} {f : Int} (h : gK g) (hd : gD g = some D) (hT : T'.length ≤ 300 ∧ ∀ x ∈ T', 0 ≤ x ∧ x < 256) (h1 : ∀ x ∈ R', gSg D x = true) (h2 : R'.length ≤ 80) (h3 : C' ≤ R'.length) : gK (T', some D, R', C', ((gR g, gC g) :: gH g).take 30, f, -1, 0) := by
  obtain ⟨T, od, R, C, H, f0, p0, q0⟩ := g
  obtain ⟨⟨-, b, -, c1, c2, c3⟩, -⟩ := h
  obtain ⟨d1, d2, d3, d4⟩ := b D hd
  refine ⟨⟨hT, fun D' e => ?_, fun e => (by cases e), h2, h3, ?_⟩, fun _ => rfl⟩
  · cases e
    refine ⟨d1, d2, h1, fun q hq => ?_⟩
    rcases List.mem_cons.mp (List.mem_of_mem_take hq) with rfl | hq
    · exact ⟨c1, c2, d3⟩
    · exact d4 q hq
  · rw [List.length_take]; omega
theorem gK_T {g : zG} (h : gK g) : (gT g).length ≤ 300 ∧ ∀ x ∈ gT g, 0 ≤ x ∧ x < 256 := by
  obtain ⟨T, od, R, C, H, f0, p0, q0⟩ := g
  exact h.1.1
theorem gK_R {g : zG} {D : zD} (h : gK g) (hd : gD g = some D) : (dOk D ∧ dLacks D = false) ∧ (∀ x ∈ gR g, gSg D x = true) ∧ (gR g).length ≤ 80 ∧ gC g ≤ (gR g).length := by
  obtain ⟨T, od, R, C, H, f0, p0, q0⟩ := g
  obtain ⟨d1, d2, d3, d4⟩ := h.1.2.1 D hd
  exact ⟨⟨d1, d2⟩, d3, h.1.2.2.2.1, h.1.2.2.2.2.1⟩
theorem gIns_sg {D : zD} {xs R : List Int} {C : Nat} (h1 : ∀ x ∈ xs, gSg D x = true) (h2 : ∀ x ∈ R, gSg D x = true) : ∀ x ∈ gIns xs R C, gSg D x = true := fun x hx => by
  unfold gIns at hx
  rcases List.mem_append.mp hx with q | q
  · rcases List.mem_append.mp q with q | q
    · exact h2 x (List.mem_of_mem_take q)
    · exact h1 x q
  · exact h2 x (List.mem_of_mem_drop q)
theorem gDel_sg {D : zD} {R : List Int} {C : Nat} (h2 : ∀ x ∈ R, gSg D x = true) : ∀ x ∈ gDel R C, gSg D x = true := fun x hx => by
  unfold gDel at hx
  rcases List.mem_append.mp hx with q | q
  · exact h2 x (List.mem_of_mem_take q)
  · exact h2 x (List.mem_of_mem_drop q)
theorem gDel_len {R : List Int} {C : Nat} (h : C < R.length) : (gDel R C).length = R.length - 1 := by
  unfold gDel
  rw [List.length_append, List.length_take, List.length_drop]
  omega
theorem gK_feed {g : zG} {a b c d e : Int} (h : gK g) : gK (sFeed g a b c d e).2 := by
  unfold sFeed
  split
  · exact h
  · rename_i hl
    obtain ⟨T, od, R, C, H, f0, p0, q0⟩ := g
    have len : ∀ v, (zby v).length = 4 := fun _ => rfl
    have hl : ¬ 280 < T.length := hl
    refine ⟨⟨⟨?_, fun x hx => ?_⟩, h.1.2⟩, h.2⟩
    · show (T ++ zby a ++ zby b ++ zby c ++ zby d ++ zby e).length ≤ 300
      simp only [List.length_append, len]
      omega
    · have hx : x ∈ T ++ zby a ++ zby b ++ zby c ++ zby d ++ zby e := hx
      simp only [List.mem_append] at hx
      rcases hx with ((((hx | hx) | hx) | hx) | hx) | hx
      · exact h.1.1.2 x hx
      all_goals exact zby_rng hx
theorem pAll_ok {xs : List Int} : ∀ (fuel e : Nat) (D D' : zD), dOk D → pAll xs fuel e D = .inr D' → dOk D' ∧ dLacks D' = false
  | 0, e, D, D', hD, h => by cases h
  | fuel + 1, e, D, D', hD, h => by
    unfold pAll at h
    split at h
    · cases h
    · rename_i D1 e1 hp
      have h1 := pLine_ok hD hp
      split at h
      · split at h
        · cases h
        · rename_i hl
          cases h
          exact ⟨h1, Bool.not_eq_true _ ▸ hl⟩
      · split at h
        · exact pAll_ok fuel _ D1 D' h1 h
        · cases h
theorem gK_scr {g : zG} {n : Int} (h : gK g) : gK (sScript g n).2 := by
  unfold sScript
  split
  · cases hp : pText ((gT g).take n.toNat) with
    | inl q =>
      obtain ⟨f, pl⟩ := q
      exact ⟨gOk_0 h.1, fun q => absurd rfl q⟩
    | inr D =>
      obtain ⟨d1, d2⟩ := pAll_ok _ _ _ _ dOk_0 hp
      refine ⟨⟨⟨Nat.zero_le _, fun x hx => by cases hx⟩, fun D' e => ?_, fun e => (by cases e), Nat.zero_le _, Nat.zero_le _, Nat.zero_le _⟩, fun _ => rfl⟩
      cases e
      exact ⟨d1, d2, fun x hx => (by cases hx), fun x hx => (by cases hx)⟩
  · exact gK_N h
theorem gK_about {g : zG} {a : Int} (h : gK g) : gK (sAbout g a).2 := by
  unfold sAbout
  split
  · exact gK_N h
  · split
    · exact gK_A h
    · exact gK_N h
theorem gK_let {g : zG} {a b : Int} (h : gK g) : gK (sLet g a b).2 := by
  unfold sLet
  split
  · exact gK_N h
  · split
    · exact gK_A h
    · exact gK_N h
theorem gK_code {g : zG} {a b c : Int} (h : gK g) : gK (sCode g a b c).2 := by
  unfold sCode
  split
  · exact gK_N h
  · split
    · exact gK_A h
    · exact gK_N h
theorem gK_parts {g : zG} {a b : Int} (h : gK g) : gK (sParts g a b).2 := by
  unfold sParts
  split
  · exact gK_N h
  · split
    · exact gK_A h
    · exact gK_N h
theorem gK_spelt {g : zG} {a b : Int} (h : gK g) : gK (sSpelt g a b).2 := by
  unfold sSpelt
  split
  · exact gK_N h
  · split
    · exact gK_A h
    · exact gK_N h
theorem gK_at {g : zG} {a : Int} (h : gK g) : gK (sAt g a).2 := by
  unfold sAt
  split
  · exact gK_A h
  · exact gK_N h
theorem gK_of {g : zG} {a b : Int} (h : gK g) : gK (sOf g a b).2 := by
  unfold sOf
  split
  · exact gK_A h
  · exact gK_N h
theorem gK_within {g : zG} (h : gK g) : gK (sWithin g).2 := by
  unfold sWithin
  split
  · exact gK_N h
  · split
    · exact gK_A h
    · exact gK_A h
theorem gK_item {g : zG} {a b : Int} (h : gK g) : gK (sItem g a b).2 := by
  unfold sItem
  split
  · exact gK_N h
  · split
    · exact gK_A h
    · exact gK_N h
theorem gK_needed {g : zG} {a : Int} (h : gK g) : gK (sNeeded g a).2 := by
  unfold sNeeded
  split
  · split
    · split
      · exact gK_A h
      · exact gK_A h
    · exact gK_N h
  · exact gK_N h
theorem gK_would {g : zG} {a b : Int} (h : gK g) : gK (sWould g a b).2 := by
  unfold sWould
  split
  · exact gK_N h
  · split
    · split
      · exact gK_N h
      · exact gK_A h
    · exact gK_N h
theorem gK_bare {g : zG} (h : gK g) : gK (sBare g).2 := by
  unfold sBare
  split
  · exact gK_N h
  · exact gK_A h
theorem gK_seek {g : zG} {a b : Int} (h : gK g) : gK (sSeek g a b).2 := by
  unfold sSeek
  split
  · exact gK_N h
  · split
    · split
      · split
        · exact gK_AT h
        · exact gK_NT h
      · exact gK_N h
    · exact gK_N h
theorem gK_rank {g : zG} {a : Int} (h : gK g) : gK (sRank g a).2 := by
  unfold sRank
  split
  · exact gK_N h
  · split
    · exact gK_A h
    · exact gK_N h
theorem gK_ways {g : zG} {a b : Int} (h : gK g) : gK (sWays g a b).2 := by
  unfold sWays
  split
  · exact gK_N h
  · split
    · exact gK_A h
    · exact gK_N h
theorem gK_whole {g : zG} {a : Int} (h : gK g) : gK (sWhole g a).2 := by
  unfold sWhole
  split
  · exact gK_N h
  · split
    · exact gK_A h
    · exact gK_N h
theorem gK_put {g : zG} {D : zD} {x : Int} (h : gK g) (hd : gD g = some D) (hx : gSg D x = true) : gK (sPut D g x).2 := by
  unfold sPut
  split
  · exact gK_N h
  · rename_i hl
    obtain ⟨-, r1, r2, r3⟩ := gK_R h hd
    exact gK_act h hd (gK_T h) (gIns_sg (fun y hy => by rw [List.mem_singleton.mp hy]; exact hx) r1) (by rw [gIns_len, List.length_singleton]; omega) (by rw [gIns_len, List.length_singleton]; omega)
theorem gK_key {g : zG} {x : Int} (h : gK g) : gK (sKey g x).2 := by
  unfold sKey
  split
  · exact gK_N h
  · rename_i D hd
    split
    · rename_i hx
      exact gK_put h hd (by show (decide (x = 124) || gKy D x) = true; rw [gKy_iff.mpr hx, Bool.or_true])
    · exact gK_N h
theorem gK_brk {g : zG} (h : gK g) : gK (sBrk g).2 := by
  unfold sBrk
  split
  · exact gK_N h
  · rename_i D hd
    exact gK_put h hd gSg_124
theorem gK_type {g : zG} {n : Int} (h : gK g) : gK (sType g n).2 := by
  unfold sType
  split
  · exact gK_N h
  · rename_i D hd
    split
    · rename_i hn
      split
      · rename_i ha
        split
        · exact gK_NT h
        · rename_i hl
          obtain ⟨-, r1, r2, r3⟩ := gK_R h hd
          have lt : ((gT g).take n.toNat).length = n.toNat := by rw [List.length_take]; omega
          exact gK_act h hd ⟨Nat.zero_le _, fun x hx => by cases hx⟩ (gIns_sg (fun y hy => List.all_eq_true.mp ha y hy) r1) (by rw [gIns_len, lt]; omega) (by rw [gIns_len, lt]; omega)
      · exact gK_NT h
    · exact gK_N h
theorem gK_del {g : zG} (h : gK g) : gK (sDel g).2 := by
  unfold sDel
  split
  · exact gK_N h
  · rename_i D hd
    split
    · exact gK_N h
    · rename_i hl
      obtain ⟨-, r1, r2, r3⟩ := gK_R h hd
      exact gK_act h hd (gK_T h) (gDel_sg r1) (by rw [gDel_len (by omega)]; omega) (by rw [gDel_len (by omega)]; omega)
theorem gK_back {g : zG} (h : gK g) : gK (sBack g).2 := by
  unfold sBack
  split
  · exact gK_N h
  · rename_i D hd
    split
    · exact gK_N h
    · rename_i hl
      obtain ⟨-, r1, r2, r3⟩ := gK_R h hd
      exact gK_act h hd (gK_T h) (gDel_sg r1) (by rw [gDel_len (by omega)]; omega) (by rw [gDel_len (by omega)]; omega)
theorem gK_goes {g : zG} {n : Int} (h : gK g) : gK (sGoes g n).2 := by
  unfold sGoes
  split
  · exact gK_N h
  · rename_i D hd
    split
    · rename_i hn
      obtain ⟨-, r1, r2, r3⟩ := gK_R h hd
      exact gK_act h hd (gK_T h) r1 r2 (by omega)
    · exact gK_N h
theorem gK_undo {g : zG} (h : gK g) : gK (sUndo g).2 := by
  unfold sUndo
  split
  · exact gK_N h
  · rename_i D hd
    split
    · exact gK_N h
    · rename_i h0 H hH
      obtain ⟨T, od, R, C, H', f0, p0, q0⟩ := g
      have hH : H' = h0 :: H := hH
      have hd : od = some D := hd
      subst hH
      subst hd
      obtain ⟨⟨a, b, -, c1, c2, c3⟩, -⟩ := h
      obtain ⟨d1, d2, d3, d4⟩ := b D rfl
      obtain ⟨e1, e2, e3⟩ := d4 h0 List.mem_cons_self
      rw [List.length_cons] at c3
      refine ⟨⟨a, fun D' e => ?_, fun e => (by cases e), e1, e2, by omega⟩, fun _ => rfl⟩
      cases e
      exact ⟨d1, d2, e3, fun q hq => d4 q (List.mem_cons_of_mem _ hq)⟩
theorem gK_tidy {g : zG} (h : gK g) : gK (sTidy g).2 := by
  unfold sTidy
  split
  · exact gK_N h
  · rename_i D hd
    obtain ⟨⟨r0, -⟩, r1, r2, r3⟩ := gK_R h hd
    obtain ⟨b1, b2⟩ := gBare_ok r0 r1
    exact gK_act h hd (gK_T h) b2 (by omega) pBk_le
theorem gBody_sg {D : zD} {T R : List Int} {C H : Nat} (hB : ∀ y ∈ bB (zPof D) (cdl D T H) H, gSg D y = true) : ∀ y ∈ gBody D T R C H, gSg D y = true := fun y hy => by
  unfold gBody at hy
  rcases List.mem_append.mp hy with q | q
  · rcases List.mem_append.mp q with q | q
    · unfold gPre at q
      split at q
      · rw [List.mem_singleton.mp q]; rfl
      · cases q
    · exact hB y q
  · unfold gSuf at q
    split at q
    · rw [List.mem_singleton.mp q]; rfl
    · cases q
theorem gK_codes {g : zG} {n : Int} (h : gK g) : gK (sCodes g n).2 := by
  unfold sCodes
  split
  · exact gK_N h
  · rename_i D hd
    split
    · split
      · rename_i hc
        split
        · exact gK_NT h
        · rename_i hl
          obtain ⟨⟨r0, rl⟩, r1, r2, r3⟩ := gK_R h hd
          obtain ⟨-, c2, -⟩ := fC_spec (p := fun i => dHb D (tCode (gT g) i)) (n.toNat / 2) 0
          have hc' : ∀ i, i < n.toNat / 2 → dHas D (tCode (gT g) i) := fun i hi => (show 0 ≤ tCode (gT g) i ∧ tCode (gT g) i < ((dnL D * dnM D * dnE D : Nat) : Int) from of_decide_eq_true (c2 i (Nat.zero_le _) (by rw [hc]; omega)))
          exact gK_act h hd ⟨Nat.zero_le _, fun x hx => by cases hx⟩ (gIns_sg (gBody_sg (kyOk_sg2 (cdl_ok r0 rl hc'))) r1) (by rw [gIns_len]; omega) (by rw [gIns_len]; omega)
      · exact gK_NT h
    · exact gK_N h
