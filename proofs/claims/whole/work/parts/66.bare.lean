/-! rows with BREAKS only where they are needed -/
abbrev zKq : Type := zCo × List Int
def kq0 : zKq := ((0, 0, 0, 0), [])
def bAp (P : zP) (p q : zKq) : Bool := decide (cIts P (p.2 ++ q.2) = [p.1, q.1])
def bPc (P : zP) (l : List zKq) (i : Nat) : List Int := if i = 0 ∨ bAp P (l.getD (i - 1) kq0) (l.getD i kq0) = true then (l.getD i kq0).2 else 124 :: (l.getD i kq0).2
def bB (P : zP) (l : List zKq) : Nat → List Int
  | 0 => []
  | i + 1 => bB P l i ++ bPc P l i
def cAl (c : zCo) : Prop := c.1 = -2 ∧ c.2.1 = -2
theorem cSign_open {D : zD} {k : Nat} {op : Option zCo} (hD : dOk D) (hk : k < 26) (hs : dS D k ≠ -1) (ho : ∀ o, op = some o → ¬ cAl o) : (∀ o, (cSign (zPof D) (kk k) op).2 = some o → ¬ cAl o) ∧ ((cSign (zPof D) (kk k) op).2 = none → ∃ d a, (cSign (zPof D) (kk k) op).1 = d ++ [a] ∧ cAl a) := by
  rw [cSign_key hk hs]
  have fr : (∀ o, (cFresh (zPof D) k).2 = some o → ¬ cAl o) ∧ ((cFresh (zPof D) k).2 = none → ∃ d a, (cFresh (zPof D) k).1 = d ++ [a] ∧ cAl a) := by
    unfold cFresh
    by_cases h : pLo (zPof D) k = -2
    · rw [if_pos h]
      exact ⟨fun o q => (by cases q), fun _ => ⟨[], _, rfl, rfl, rfl⟩⟩
    · rw [if_neg h]
      exact ⟨fun o q => (by cases q; exact fun w => h w.1), fun q => (by cases q)⟩
  have frp : ∀ w : zCo, (∀ o, (cPut w (cFresh (zPof D) k)).2 = some o → ¬ cAl o) ∧ ((cPut w (cFresh (zPof D) k)).2 = none → ∃ d a, (cPut w (cFresh (zPof D) k)).1 = d ++ [a] ∧ cAl a) := fun w => ⟨fr.1, fun q => by
    obtain ⟨d, a, e1, e2⟩ := fr.2 q
    exact ⟨w :: d, a, by show w :: _ = _; rw [e1]; rfl, e2⟩⟩
  by_cases h4 : dS D k = 4
  · rw [if_pos h4]
    exact ⟨fun o q => (by cases q), fun _ => ⟨_, _, rfl, rfl, rfl⟩⟩
  · rw [if_neg h4]
    by_cases h3 : dS D k = 3
    · rw [if_pos h3]
      have hm : pMo (zPof D) k ≠ -2 := ((dOk_Pk hD).1 k hk).2.2.2.2 h3
      unfold cVow
      cases op with
      | none => exact ⟨fun o q => (by cases q; exact fun w => hm w.2), fun q => (by cases q)⟩
      | some o =>
        dsimp only
        by_cases c1 : o.1 ≠ -2 ∧ o.2.1 = -2
        · rw [if_pos c1]; exact ⟨fun o q => (by cases q; exact fun w => hm w.2), fun q => (by cases q)⟩
        · rw [if_neg c1]
          by_cases c2 : o.2.2.1 ≠ -2
          · rw [if_pos c2]
            by_cases c3 : pLo (zPof D) (pLa (zPof D) o.2.2.1) = -2
            · rw [if_pos c3]; exact ⟨fun o q => (by cases q; exact fun w => hm w.2), fun q => (by cases q)⟩
            · rw [if_neg c3]; exact ⟨fun o q => (by cases q; exact fun w => hm w.2), fun q => (by cases q)⟩
          · rw [if_neg c2]
            by_cases c3 : pVp (zPof D) o.2.1 k = -2
            · rw [if_pos c3]; exact ⟨fun o q => (by cases q; exact fun w => hm w.2), fun q => (by cases q)⟩
            · rw [if_neg c3]; exact ⟨fun o q => (by cases q; exact fun w => c3 w.2), fun q => (by cases q)⟩
    · rw [if_neg h3]
      unfold cCons
      cases op with
      | none => exact fr
      | some o =>
        dsimp only
        by_cases c1 : o.1 = -2
        · rw [if_pos c1]; exact frp o
        · rw [if_neg c1]
          by_cases c2 : o.2.1 = -2
          · rw [if_pos c2]
            by_cases c3 : o.1 = pLo (zPof D) k ∧ pTw (zPof D) k ≠ -2
            · rw [if_pos c3]; exact ⟨fun o q => (by cases q; exact fun w => c3.2 w.1), fun q => (by cases q)⟩
            · rw [if_neg c3]; exact frp o
          · rw [if_neg c2]
            by_cases c3 : (if o.2.2.1 = -2 then pEo (zPof D) k else pEp (zPof D) o.2.2.1 k) = -2
            · rw [if_pos c3]; exact frp o
            · rw [if_neg c3]; exact ⟨fun o q => (by cases q; exact fun w => c1 w.1), fun q => (by cases q)⟩
def kyOk (D : zD) (xs : List Int) : Prop := ∀ y ∈ xs, ∃ k : Nat, k < 26 ∧ y = kk k ∧ dS D k ≠ -1
theorem cGo_open {D : zD} (hD : dOk D) : ∀ (xs : List Int) (op : Option zCo), kyOk D xs → (∀ o, op = some o → ¬ cAl o) → (∀ o, (cGo (zPof D) xs op).2 = some o → ¬ cAl o) ∧ (xs ≠ [] → (cGo (zPof D) xs op).2 = none → ∃ d a, (cGo (zPof D) xs op).1 = d ++ [a] ∧ cAl a) := by
  intro xs
  induction xs with
  | nil => intro op _ ho; exact ⟨ho, fun q => absurd rfl q⟩
  | cons x t ih =>
    intro op hk ho
    obtain ⟨k, hk1, e, hs⟩ := hk x List.mem_cons_self
    subst e
    obtain ⟨g1, g2⟩ := cSign_open (op := op) hD hk1 hs ho
    obtain ⟨i1, i2⟩ := ih (cSign (zPof D) (kk k) op).2 (fun y hy => hk y (List.mem_cons_of_mem _ hy)) g1
    refine ⟨i1, fun _ q => ?_⟩
    show ∃ d a, (cSign (zPof D) (kk k) op).1 ++ (cGo (zPof D) t (cSign (zPof D) (kk k) op).2).1 = d ++ [a] ∧ cAl a
    by_cases ht : t = []
    · subst ht
      obtain ⟨d, a, e1, e2⟩ := g2 q
      exact ⟨d, a, by rw [e1]; exact List.append_nil _, e2⟩
    · obtain ⟨d, a, e1, e2⟩ := i2 ht q
      exact ⟨(cSign (zPof D) (kk k) op).1 ++ d, a, by rw [e1, List.append_assoc], e2⟩
/-- KEYS that make just this ITEM -/
def kqOk (D : zD) (q : zKq) : Prop := kyOk D q.2 ∧ q.2 ≠ [] ∧ cGo (zPof D) q.2 none = (if q.1.1 = -2 ∧ q.1.2.1 = -2 then ([q.1], none) else ([], some q.1))
theorem kq_its {D : zD} {q : zKq} (h : kqOk D q) : (cGo (zPof D) q.2 none).1 ++ (cGo (zPof D) q.2 none).2.toList = [q.1] := by
  rw [h.2.2]
  split <;> rfl
theorem cSign_brk {D : zD} {op : Option zCo} : cSign (zPof D) 124 op = (op.toList, none) := if_neg (by omega)
theorem bB_go {D : zD} (hD : dOk D) {l : List zKq} (hl : ∀ q ∈ l, kqOk D q) : ∀ i, i < l.length → cGo (zPof D) (bB (zPof D) l (i + 1)) none = ((l.take i).map (fun q => q.1) ++ (cGo (zPof D) (l.getD i kq0).2 none).1, (cGo (zPof D) (l.getD i kq0).2 none).2) := by
  intro i
  induction i with
  | zero =>
    intro hi
    have e : bB (zPof D) l 1 = (l.getD 0 kq0).2 := by
      show [] ++ bPc (zPof D) l 0 = _
      rw [List.nil_append]
      unfold bPc
      rw [if_pos (Or.inl rfl)]
    rw [e]
    rfl
  | succ i ih =>
    intro hi
    have ih := ih (by omega)
    have hi' : i < l.length := by omega
    have hq := hl l[i + 1] (List.getElem_mem hi)
    have hp := hl l[i] (List.getElem_mem hi')
    have hpi := kq_its hp
    show cGo (zPof D) (bB (zPof D) l (i + 1) ++ bPc (zPof D) l (i + 1)) none = _
    unfold bPc
    rw [show i + 1 - 1 = i by omega, getD_lt hi]
    rw [getD_lt hi'] at ih ⊢
    rw [take_s hi', List.map_append]
    by_cases ha : i + 1 = 0 ∨ bAp (zPof D) l[i] l[i + 1] = true
    · rw [if_pos ha]
      have ha := of_decide_eq_true (ha.resolve_left (by omega))
      rw [cGo_app, ih]
      dsimp only
      unfold cIts at ha
      rw [cGo_app] at ha
      dsimp only at ha
      obtain ⟨g1, g2⟩ := cGo_open hD l[i + 1].2 (cGo (zPof D) l[i].2 none).2 hq.1 (cGo_open hD l[i].2 none hp.1 (fun o q => by cases q)).1
      obtain ⟨f1, f2⟩ := cGo_open hD l[i + 1].2 none hq.1 (fun o q => by cases q)
      have f2 := f2 hq.2.1
      have g2 := g2 hq.2.1
      generalize cGo (zPof D) l[i].2 none = A at *
      generalize cGo (zPof D) l[i + 1].2 A.2 = B at *
      have hB := hq.2.2
      generalize cGo (zPof D) l[i + 1].2 none = E at *
      cases hB2 : B.2 with
      | none =>
        rw [hB2] at ha
        have ha : A.1 ++ B.1 = [l[i].1, l[i + 1].1] := by rw [← ha]; exact (List.append_nil _).symm
        obtain ⟨d, a, e1, e2⟩ := g2 hB2
        have ea : a = l[i + 1].1 := by
          have := congrArg List.getLast? ha
          rw [e1, ← List.append_assoc, List.getLast?_concat] at this
          exact Option.some.inj this
        rw [ea] at e2
        rw [if_pos (show l[i + 1].1.1 = -2 ∧ l[i + 1].1.2.1 = -2 from e2)] at hB
        rw [hB, List.append_assoc, ha]
        simp
      | some o =>
        rw [hB2] at ha
        have ha : (A.1 ++ B.1) ++ [o] = [l[i].1] ++ [l[i + 1].1] := ha
        have e1 := List.append_inj' ha rfl
        have eo : o = l[i + 1].1 := by have := e1.2; exact List.head_eq_of_cons_eq this
        have no := g1 o hB2
        rw [eo] at no
        rw [if_neg (show ¬ (l[i + 1].1.1 = -2 ∧ l[i + 1].1.2.1 = -2) from no)] at hB
        rw [hB, List.append_assoc, e1.1, eo]
        simp
    · rw [if_neg ha, show (124 :: l[i + 1].2 : List Int) = [124] ++ l[i + 1].2 from rfl, cGo_app, ih]
      dsimp only
      rw [cGo_app, cGo_one, cSign_brk]
      dsimp only
      rw [List.append_assoc, ← List.append_assoc _ _ (cGo (zPof D) l[i + 1].2 none).1, hpi, ← List.append_assoc]
      rfl
theorem bB_its {D : zD} (hD : dOk D) {l : List zKq} (hl : ∀ q ∈ l, kqOk D q) {i : Nat} (hi : i < l.length) : cIts (zPof D) (bB (zPof D) l (i + 1)) = (l.take (i + 1)).map (fun q => q.1) := by
  unfold cIts
  rw [bB_go hD hl i hi, take_s hi, List.map_append, getD_lt hi, List.append_assoc, kq_its (hl _ (List.getElem_mem hi))]
  rfl
/-- trying the next ITEM's KEYS behind all that is out is as good as behind the last one's alone -/
theorem bB_try {D : zD} (hD : dOk D) {l : List zKq} (hl : ∀ q ∈ l, kqOk D q) {i : Nat} (hi : i + 1 < l.length) : cIts (zPof D) (bB (zPof D) l (i + 1) ++ (l.getD (i + 1) kq0).2) = (l.take (i + 2)).map (fun q => q.1) ↔ bAp (zPof D) (l.getD i kq0) (l.getD (i + 1) kq0) = true := by
  have hi' : i < l.length := by omega
  unfold bAp
  rw [decide_eq_true_iff]
  unfold cIts
  rw [cGo_app, bB_go hD hl i hi', cGo_app]
  dsimp only
  rw [getD_lt hi, getD_lt hi', take_s hi, take_s hi', List.map_append, List.map_append, List.append_assoc, List.append_assoc, List.append_assoc, List.append_assoc]
  constructor
  · intro h
    exact List.append_cancel_left h
  · intro h
    rw [h]
    rfl
