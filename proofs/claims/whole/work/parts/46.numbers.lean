/-! the numbers of a SCRIPT, as THE MACHINE asks for them -/
theorem ixf_at {xs : List Nat} {i k : Nat} {f g : Nat → Int} (h : f k = g k) : ixf xs i f k = ixf xs i g k := by
  induction xs generalizing i f g with
  | nil => exact h
  | cons x t ih =>
    rw [ixf, ixf]
    apply ih
    by_cases e : k = x
    · rw [if_pos e, if_pos e]
    · rw [if_neg e, if_neg e]; exact h
theorem ixf_no {xs : List Nat} {i k : Nat} {f : Nat → Int} (h : k ∉ xs) : ixf xs i f k = f k := by
  induction xs generalizing i f with
  | nil => rfl
  | cons x t ih =>
    rw [ixf, ih (fun q => h (List.mem_cons_of_mem _ q)), if_neg (fun e => h (by rw [e]; exact List.mem_cons_self))]
theorem ixf_get {xs : List Nat} (hn : xs.Nodup) {i j : Nat} {f : Nat → Int} (hj : j < xs.length) : ixf xs i f xs[j] = ((i + j : Nat) : Int) := by
  induction xs generalizing i j f with
  | nil => exact absurd hj (by simp)
  | cons x t ih =>
    rw [List.nodup_cons] at hn
    cases j with
    | zero =>
      rw [ixf]
      show ixf t (i + 1) _ x = _
      rw [ixf_no hn.1, if_pos rfl]; rfl
    | succ j =>
      rw [ixf]
      show ixf t (i + 1) _ (t[j]'(by simpa using hj)) = _
      rw [ih hn.2 (by simpa using hj)]
      omega
theorem ixf_in {xs : List Nat} (hn : xs.Nodup) {i k : Nat} {f : Nat → Int} (h : k ∈ xs) : ∃ j, ∃ hj : j < xs.length, xs[j] = k ∧ ixf xs i f k = ((i + j : Nat) : Int) := by
  obtain ⟨j, hj, e⟩ := List.getElem_of_mem h
  exact ⟨j, hj, e, by rw [← e]; exact ixf_get hn hj⟩
/-- a number that is one of a list's is that of the KEY there -/
theorem ixf_inv {xs : List Nat} (hn : xs.Nodup) {i k l : Nat} {f : Nat → Int} (hf : ∀ k, f k = -2) (hl : l < xs.length) : ixf xs i f k = ((i + l : Nat) : Int) ↔ xs[l] = k := by
  constructor
  · intro h
    by_cases hk : k ∈ xs
    · obtain ⟨j, hj, e, h2⟩ := ixf_in hn (i := i) (f := f) hk
      rw [h] at h2
      have : j = l := by omega
      subst this
      exact e
    · rw [ixf_no hk, hf] at h; omega
  · intro h
    rw [← h]; exact ixf_get hn hl
theorem ixf_rng {xs : List Nat} (hn : xs.Nodup) {i k : Nat} : ixf xs i (fun _ => -2) k = -2 ∨ ((i : Int) ≤ ixf xs i (fun _ => -2) k ∧ ixf xs i (fun _ => -2) k < ((i + xs.length : Nat) : Int) ∧ k ∈ xs) := by
  by_cases hk : k ∈ xs
  · obtain ⟨j, hj, e, h2⟩ := ixf_in hn (i := i) (f := fun _ => -2) hk
    right
    rw [h2]
    exact ⟨by omega, by omega, hk⟩
  · left; exact ixf_no hk
theorem zfind_rng {es : List (Int × Int)} {a b : Int} {i : Nat} : zfind es a b i = -2 ∨ ((i : Int) ≤ zfind es a b i ∧ zfind es a b i < ((i + es.length : Nat) : Int)) := by
  induction es generalizing i with
  | nil => exact Or.inl rfl
  | cons q t ih =>
    rw [zfind]
    by_cases h : q.1 = a ∧ q.2 = b
    · rw [if_pos h, List.length_cons]; right; omega
    · rw [if_neg h, List.length_cons]
      rcases ih (i := i + 1) with h | h
      · exact Or.inl h
      · right; omega
theorem zfind_twin {ts : List Nat} (hn : ts.Nodup) {a k i : Nat} : zfind (ts.map (fun t => (kk t, kk t))) (kk a) (kk k) i = if a = k then ixf ts i (fun _ => -2) k else -2 := by
  induction ts generalizing i with
  | nil => rw [List.map_nil, zfind, ixf]; split <;> rfl
  | cons x t ih =>
    rw [List.nodup_cons] at hn
    rw [List.map_cons, zfind, ixf]
    simp only [kk_inj]
    by_cases h : x = a ∧ x = k
    · obtain ⟨rfl, rfl⟩ := h
      rw [if_pos ⟨rfl, rfl⟩, if_pos rfl, ixf_no hn.1, if_pos rfl]
    · rw [if_neg h, ih hn.2]
      by_cases e : a = k
      · rw [if_pos e, if_pos e]
        apply ixf_at
        rw [if_neg (fun q => h ⟨by rw [← q, e], q.symm⟩)]
      · rw [if_neg e, if_neg e]
def dTw (D : zD) : Nat → Int := ixf (dT D) (dLe D).length (fun _ => -2)
def dVp (D : zD) (x : Int) (k : Nat) : Int := zwith (dTM D) (dV D).length x (kk k)
def dEp (D : zD) (x : Int) (k : Nat) : Int := zwith (dTE D) (1 + (dEn D).length) x (kk k)
def dLa (D : zD) (x : Int) : Nat := if x.toNat < 1 + (dEn D).length then (dEn D).getD (x.toNat - 1) 0 else ((dPE D).getD (x.toNat - (1 + (dEn D).length)) (0, 0)).2
def dCu (D : zD) (x : Int) : Int := if x.toNat < 1 + (dEn D).length then -2 else dNE D ((dPE D).getD (x.toNat - (1 + (dEn D).length)) (0, 0)).1
def zPof (D : zD) : zP := (dS D, dNL D, dTw D, dNE D, dNM D, dVp D, dEp D, dLa D, dCu D)
def dnL (D : zD) : Nat := (dLe D).length + (dT D).length
def dnM (D : zD) : Nat := (dV D).length + (dPV D).length
def dnE (D : zD) : Nat := 1 + (dEn D).length + (dPE D).length
theorem dTL_len {D : zD} : (dTL D).length = dnL D := by unfold dTL dnL; rw [List.length_append, List.length_map, List.length_map]
theorem dTM_len {D : zD} : (dTM D).length = dnM D := by unfold dTM dnM; rw [List.length_append, List.length_map, List.length_map]
theorem dTE_len {D : zD} : (dTE D).length = dnE D := by unfold dTE dnE; rw [List.length_append, List.length_append, List.length_map, List.length_map]; rfl
theorem dLe_nd {D : zD} (h : dOk D) : (dLe D).Nodup := List.Nodup.sublist List.filter_sublist h.2.1.1
theorem dEn_nd {D : zD} (h : dOk D) : (dEn D).Nodup := List.Nodup.sublist List.filter_sublist h.2.1.1
theorem dLe_mem {D : zD} {k : Nat} (h : dOk D) : k ∈ dLe D ↔ cLe D k = true := by
  unfold dLe
  rw [List.mem_filter]
  refine ⟨fun q => q.2, fun q => ⟨?_, q⟩⟩
  have q' := q
  unfold cLe at q'
  rw [Bool.or_eq_true, decide_eq_true_iff, decide_eq_true_iff] at q'
  rcases h.2.2.2 k with h | ⟨_, _, h⟩ | ⟨h, _⟩ | ⟨h, _⟩
  · omega
  · exact h
  · omega
  · omega
theorem dEn_mem {D : zD} {k : Nat} (h : dOk D) : k ∈ dEn D ↔ cFi D k = true := by
  unfold dEn
  rw [List.mem_filter]
  refine ⟨fun q => q.2, fun q => ⟨?_, q⟩⟩
  have q' := q
  unfold cFi at q'
  rw [Bool.or_eq_true, decide_eq_true_iff, decide_eq_true_iff] at q'
  rcases h.2.2.2 k with h | ⟨_, _, h⟩ | ⟨h, _⟩ | ⟨h, _⟩
  · omega
  · exact h
  · omega
  · omega
theorem dPE_mem {D : zD} {q : Nat × Nat} (h : dOk D) (hq : q ∈ dPE D) : q ∈ dP D ∧ cFi D q.1 = true ∧ cFi D q.2 = true ∧ q.1 < 26 ∧ q.2 < 26 := by
  unfold dPE at hq
  rw [List.mem_filter] at hq
  obtain ⟨h1, h2, h3⟩ := h.1.2.2.2.2 q hq.1
  refine ⟨hq.1, ?_, ?_, h1, h2⟩
  · rcases h3 with h3 | h3
    · rw [h3.1] at hq; cases hq.2
    · exact h3.1
  · rcases h3 with h3 | h3
    · rw [h3.1] at hq; cases hq.2
    · exact h3.2
theorem zwith_rng {es : List (Int × Int)} {ns : Nat} {x key : Int} (hn : ns ≤ es.length) : zwith es ns x key = -2 ∨ ((ns : Int) ≤ zwith es ns x key ∧ zwith es ns x key < (es.length : Int)) := by
  unfold zwith
  by_cases h : x < 0 ∨ (ns : Int) ≤ x
  · rw [if_pos h]; exact Or.inl rfl
  · rw [if_neg h]
    rcases zfind_rng (es := es.drop ns) (a := (es.getD x.toNat (0, 0)).1) (b := key) (i := ns) with h | h
    · exact Or.inl h
    · rw [List.length_drop] at h
      right; omega
theorem dTw_rng {D : zD} {k : Nat} (h : dOk D) : dTw D k = -2 ∨ (((dLe D).length : Int) ≤ dTw D k ∧ dTw D k < (dnL D : Int) ∧ k ∈ dT D) := ixf_rng h.2.1.2.2.2.1
theorem dNL_rng {D : zD} {k : Nat} (h : dOk D) : dNL D k = -2 ∨ (0 ≤ dNL D k ∧ dNL D k < ((dLe D).length : Int) ∧ k ∈ dLe D) := by
  have := ixf_rng (dLe_nd h) (i := 0) (k := k)
  rw [Nat.zero_add] at this
  exact this
theorem dNM_rng {D : zD} {k : Nat} (h : dOk D) : dNM D k = -2 ∨ (0 ≤ dNM D k ∧ dNM D k < ((dV D).length : Int) ∧ k ∈ dV D) := by
  have := ixf_rng h.2.1.2.1 (i := 0) (k := k)
  rw [Nat.zero_add] at this
  exact this
theorem dNE_rng {D : zD} {k : Nat} (h : dOk D) : dNE D k = -2 ∨ (1 ≤ dNE D k ∧ dNE D k < ((1 + (dEn D).length : Nat) : Int) ∧ k ∈ dEn D) := ixf_rng (dEn_nd h)
theorem dTL_with {D : zD} (h : dOk D) {k : Nat} {l : Int} : zwith (dTL D) (dLe D).length l ((k : Int) + 97) = if l = dNL D k ∧ l ≠ -2 ∧ dTw D k ≠ -2 then dTw D k else -2 := by
  unfold zwith
  by_cases hl : l < 0 ∨ ((dLe D).length : Int) ≤ l
  · rw [if_pos hl, if_neg]
    rintro ⟨q1, q2, q3⟩
    rcases dNL_rng h (k := k) with r | r <;> omega
  · rw [if_neg hl]
    obtain ⟨n, rfl⟩ : ∃ n : Nat, l = (n : Int) := ⟨l.toNat, by omega⟩
    have hn : n < (dLe D).length := by omega
    have e1 : (dTL D).drop (dLe D).length = (dT D).map (fun t => (kk t, kk t)) := by
      unfold dTL
      rw [List.drop_append_of_le_length (by rw [List.length_map]; exact Nat.le_refl _), List.drop_of_length_le (by rw [List.length_map]; exact Nat.le_refl _), List.nil_append]
    have e2 : ((dTL D).getD (n : Int).toNat (0, 0)).1 = kk (dLe D)[n] := by
      rw [Int.toNat_natCast, getD_lt (by rw [dTL_len]; unfold dnL; omega)]
      unfold dTL
      rw [List.getElem_append_left (by rw [List.length_map]; exact hn), List.getElem_map]
      rfl
    rw [e1, e2]
    show zfind _ (kk _) (kk k) _ = _
    rw [zfind_twin h.2.1.2.2.2.1]
    have inv := ixf_inv (dLe_nd h) (i := 0) (k := k) (f := fun _ => -2) (fun _ => rfl) hn
    rw [Nat.zero_add] at inv
    by_cases e : (dLe D)[n] = k
    · rw [if_pos e]
      have e3 : (n : Int) = dNL D k := (inv.mpr e).symm
      by_cases ht : dTw D k = -2
      · rw [if_neg (fun q => q.2.2 ht)]; exact ht
      · rw [if_pos ⟨e3, by omega, ht⟩]; rfl
    · rw [if_neg e, if_neg (fun q => e (inv.mp q.1.symm))]
theorem zSt_SC {L : zY} {m : zM} {c : Nat} {D : zD} (h : dOk D) (hS : zSd L m c D) (hT : zSt L m c D) : zSC L m c (zPof D) := by
  refine ⟨hS.1.1, hS.1.2.1, hS.1.2.2.1, hS.1.2.2.2.2.2.2.2.2.2.2.2.2.1, hS.1.2.2.2.2.2.2.2.2.2.2.2.2.2, hS.2.1, hS.1.2.2.2.2.2.2.2.2.2.1, hS.1.2.2.2.2.2.2.2.2.2.2.1, hS.1.2.2.2.2.2.2.2.2.2.2.2.1, dTL D, dTM D, dTE D, (dLe D).length, (dV D).length, 1 + (dEn D).length, hT.1, hT.2.1, hT.2.2, fun k l hk => dTL_with h, fun k x hk => rfl, fun k x hk hx => rfl, fun k hk => ⟨?_, ?_, ?_, ?_, fun x => ?_, fun x => ?_⟩, fun k hk => ?_, fun k hk h3 => ?_⟩
  · rcases dNL_rng h (k := k) with r | r
    · exact Or.inl r
    · exact Or.inr r.1
  · rcases dNM_rng h (k := k) with r | r
    · exact Or.inl r
    · exact Or.inr r.1
  · rcases dNE_rng h (k := k) with r | r
    · exact Or.inl r
    · exact Or.inr (by show 0 < dNE D k; omega)
  · rcases dTw_rng h (k := k) with r | r
    · exact Or.inl r
    · exact Or.inr (by show 0 ≤ dTw D k; omega)
  · rcases zwith_rng (es := dTM D) (ns := (dV D).length) (x := x) (key := kk k) (by rw [dTM_len]; unfold dnM; omega) with r | r
    · exact Or.inl r
    · exact Or.inr (by show 0 ≤ dVp D x k; unfold dVp; omega)
  · rcases zwith_rng (es := dTE D) (ns := 1 + (dEn D).length) (x := x) (key := kk k) (by rw [dTE_len]; unfold dnE; omega) with r | r
    · exact Or.inl r
    · exact Or.inr (by show 0 < dEp D x k; unfold dEp; omega)
  · show -1 ≤ dS D k ∧ dS D k ≤ 4
    rcases h.2.2.2 k with r | r | r | r <;> omega
  · show dNM D k ≠ -2
    have h3 : dS D k = 3 := h3
    have hm : k ∈ dV D := by rcases h.2.2.2 k with r | r | r | r <;> first | exact r.2 | omega
    obtain ⟨j, hj, e, e2⟩ := ixf_in h.2.1.2.1 (i := 0) (f := fun _ => -2) hm
    show ixf (dV D) 0 (fun _ => -2) k ≠ -2
    rw [e2]; omega
theorem zSt_SE {L : zY} {m : zM} {c : Nat} {D : zD} (h : dOk D) (hT : zSt L m c D) : zSE L m c (zPof D) (dnE D) := by
  refine ⟨dTE D, 1 + (dEn D).length, hT.2.2, dTE_len, fun x hx h0 => ?_⟩
  have hx' : x < dnE D := by rw [← dTE_len]; exact hx
  show _ = ((dLa D (x : Int) : Nat) : Int) + 97 ∧ dLa D (x : Int) < 26 ∧ (_ → dCu D (x : Int) = -2) ∧ (_ → ∃ k : Nat, _ ∧ _ ∧ dNE D k = dCu D (x : Int) ∧ 0 < dCu D (x : Int))
  unfold dLa dCu
  rw [Int.toNat_natCast]
  by_cases hn : x < 1 + (dEn D).length
  · rw [if_pos hn, if_pos hn, if_pos hn]
    have hl : x - 1 < (dEn D).length := by omega
    have e : (dTE D)[x] = k1 (dEn D)[x - 1] := by
      unfold dTE
      simp only [List.append_assoc]
      rw [List.getElem_append_right (by show 1 ≤ x; omega), List.getElem_append_left (by rw [List.length_map]; exact hl), List.getElem_map]
      rfl
    have hm := List.getElem_mem hl
    have hlt : (dEn D)[x - 1] < 26 := (h.1.1 _ (List.mem_filter.mp hm).1).1
    rw [e, getD_lt hl]
    exact ⟨rfl, hlt, fun _ => rfl, fun q => absurd q (by omega)⟩
  · rw [if_neg hn, if_neg hn, if_neg hn]
    have hl : x - (1 + (dEn D).length) < (dPE D).length := by unfold dnE at hx'; omega
    have e : (dTE D)[x] = k2 (dPE D)[x - (1 + (dEn D).length)] := by
      have hl2 : ([(-2, -2)] ++ (dEn D).map k1 : List (Int × Int)).length = 1 + (dEn D).length := by rw [List.length_append, List.length_map]; rfl
      have q : (dTE D)[x]? = some (k2 (dPE D)[x - (1 + (dEn D).length)]) := by
        unfold dTE
        rw [List.getElem?_append_right (by rw [hl2]; omega), hl2, List.getElem?_map, List.getElem?_eq_getElem hl]
        rfl
      rw [List.getElem?_eq_getElem hx] at q
      exact Option.some.inj q
    obtain ⟨_, h1, h2, h3, h4⟩ := dPE_mem h (List.getElem_mem hl)
    rw [e, getD_lt hl]
    refine ⟨rfl, h4, fun q => absurd q hn, fun _ => ⟨_, h3, rfl, rfl, ?_⟩⟩
    obtain ⟨j, hj, _, e2⟩ := ixf_in (dEn_nd h) (i := 1) (f := fun _ => -2) ((dEn_mem h).mpr h1)
    show 0 < ixf (dEn D) 1 (fun _ => -2) _
    rw [e2]; omega
theorem dOk_Pk {D : zD} (h : dOk D) : zPk (zPof D) (dnE D) := by
  refine ⟨fun k hk => ⟨?_, fun x => ?_, ?_, fun x => ?_, fun h3 => ?_⟩, by unfold dnE; omega⟩
  · rcases dNE_rng h (k := k) with r | r
    · exact Or.inl r
    · exact Or.inr (by show 0 < dNE D k; omega)
  · rcases zwith_rng (es := dTE D) (ns := 1 + (dEn D).length) (x := x) (key := kk k) (by rw [dTE_len]; unfold dnE; omega) with r | r
    · exact Or.inl r
    · exact Or.inr (by show 0 < dEp D x k; unfold dEp; omega)
  · show dNE D k < _
    rcases dNE_rng h (k := k) with r | r <;> unfold dnE <;> omega
  · show dEp D x k < _
    unfold dEp
    rcases zwith_rng (es := dTE D) (ns := 1 + (dEn D).length) (x := x) (key := kk k) (by rw [dTE_len]; unfold dnE; omega) with r | r
    · rw [r]; unfold dnE; omega
    · rw [dTE_len] at r; omega
  · show dNM D k ≠ -2
    have h3 : dS D k = 3 := h3
    have hm : k ∈ dV D := by rcases h.2.2.2 k with r | r | r | r <;> first | exact r.2 | omega
    obtain ⟨j, hj, e, e2⟩ := ixf_in h.2.1.2.1 (i := 0) (f := fun _ => -2) hm
    show ixf (dV D) 0 (fun _ => -2) k ≠ -2
    rw [e2]; omega
