/-! what THE MACHINE asks of a SCRIPT: sort of a KEY, its number as a LEAD, of its TWIN, as an END, as a MIDDLE; of a MIDDLE and a VOWEL, of an END and a CONSONANT the pair's; an END's latest KEY, what is left without it -/
abbrev zP : Type := (Nat → Int) × (Nat → Int) × (Nat → Int) × (Nat → Int) × (Nat → Int) × (Int → Nat → Int) × (Int → Nat → Int) × (Int → Nat) × (Int → Int)
def pSo (P : zP) : Nat → Int := P.1
def pLo (P : zP) : Nat → Int := P.2.1
def pTw (P : zP) : Nat → Int := P.2.2.1
def pEo (P : zP) : Nat → Int := P.2.2.2.1
def pMo (P : zP) : Nat → Int := P.2.2.2.2.1
def pVp (P : zP) : Int → Nat → Int := P.2.2.2.2.2.1
def pEp (P : zP) : Int → Nat → Int := P.2.2.2.2.2.2.1
def pLa (P : zP) : Int → Nat := P.2.2.2.2.2.2.2.1
def pCu (P : zP) : Int → Int := P.2.2.2.2.2.2.2.2
/-- closed ITEMS, what is OPEN, the places, how many are STOLEN -/
abbrev zMS : Type := List zIt × Option zIt × List (Int × Int × Int) × Int
def msI (s : zMS) : List zIt := s.1 ++ s.2.1.toList
def ms0 : zMS := ([], none, [], 0)
def kJoin (s : zMS) (x : zIt) (role : Int) : zMS := (s.1, some x, s.2.2.1 ++ [((s.1.length : Int), role, 0)], s.2.2.2)
def kNew (s : zMS) (x : zIt) (role : Int) : zMS := (msI s, some x, s.2.2.1 ++ [(((msI s).length : Int), role, 0)], s.2.2.2)
def kAlone (s : zMS) (x : zIt) : zMS := (msI s ++ [x], none, s.2.2.1 ++ [(((msI s).length : Int), 3, 0)], s.2.2.2)
def kFresh (P : zP) (c : Nat) (s : zMS) : zMS := if pLo P c = -2 then kAlone s (-2, -2, -2, (c : Int), (s.2.2.1.length : Int), 1) else kNew s (pLo P c, -2, -2, (c : Int), (s.2.2.1.length : Int), 1) 0
def kCons (P : zP) (c : Nat) (s : zMS) : zMS := match s.2.1 with
  | none => kFresh P c s
  | some x =>
    if itL x = -2 then kFresh P c s
    else if itM x = -2 then (if itL x = pLo P c ∧ pTw P c ≠ -2 then kJoin s (pTw P c, itM x, itE x, itK x, itF x, itN x + 1) 0 else kFresh P c s)
    else (let e := if itE x = -2 then pEo P c else pEp P (itE x) c; if e = -2 then kFresh P c s else kJoin s (itL x, itM x, e, itK x, itF x, itN x + 1) 2)
def kVnew (P : zP) (v : Nat) (s : zMS) : zMS := kNew s (-2, pMo P v, -2, (v : Int), (s.2.2.1.length : Int), 1) 1
def kSteal (P : zP) (v : Nat) (s : zMS) (x : zIt) : zMS :=
  (s.1 ++ [(itL x, itM x, pCu P (itE x), itK x, itF x, itN x - 1)], some (pLo P (pLa P (itE x)), pMo P v, -2, (pLa P (itE x) : Int), (s.2.2.1.length : Int) - 1, 2), s.2.2.1.dropLast ++ [((s.1.length : Int) + 1, 0, 1)] ++ [((s.1.length : Int) + 1, 1, 0)], s.2.2.2 + 1)
def kVow (P : zP) (v : Nat) (s : zMS) : zMS := match s.2.1 with
  | none => kVnew P v s
  | some x =>
    if itL x ≠ -2 ∧ itM x = -2 then kJoin s (itL x, pMo P v, itE x, itK x, itF x, itN x + 1) 1
    else if itE x ≠ -2 then (if pLo P (pLa P (itE x)) = -2 then kVnew P v s else kSteal P v s x)
    else (if pVp P (itM x) v = -2 then kVnew P v s else kJoin s (itL x, pVp P (itM x) v, itE x, itK x, itF x, itN x + 1) 1)
def kBreak (s : zMS) : zMS := (msI s, none, s.2.2.1 ++ [(-2, -2, 0)], s.2.2.2)
def kSign (P : zP) (sign : Int) (s : zMS) : zMS :=
  if 97 ≤ sign ∧ sign < 123 ∧ pSo P (sign - 97).toNat ≠ -1 then
    (if pSo P (sign - 97).toNat = 4 then kAlone s (-2, -2, -2, (((sign - 97).toNat : Nat) : Int), (s.2.2.1.length : Int), 1) else if pSo P (sign - 97).toNat = 3 then kVow P (sign - 97).toNat s else kCons P (sign - 97).toNat s)
  else kBreak s
def kRun (P : zP) (row : List Int) : zMS := row.foldl (fun s x => kSign P x s) ms0
/-- what holds of each state that THE MACHINE comes to -/
def msW (s : zMS) : Prop := (msI s).length ≤ s.2.2.1.length ∧ 0 ≤ s.2.2.2 ∧ s.2.2.2 ≤ (s.2.2.1.length : Int) ∧ (∀ x ∈ msI s, 0 ≤ itN x ∧ itN x ≤ (s.2.2.1.length : Int)) ∧
  ∀ x, s.2.1 = some x → ¬ (itL x = -2 ∧ itM x = -2) ∧ (itE x = -2 ∨ 0 < itE x) ∧ (itE x ≠ -2 → itL x ≠ -2 ∧ itM x ≠ -2) ∧ s.2.2.1 ≠ []
/-- a Reading at o stands for s -/
def zRC (L : zY) (m : zM) (o : Nat) (s : zMS) : Prop := zRL L m o ∧ zRI m o (msI s) ∧ zRP m o s.2.2.1 ∧ m o 11 = s.2.2.2 ∧ m o 12 = (match s.2.1 with | some _ => 1 | none => 0) ∧ msW s
/-- a Script at c, as far as THE MACHINE asks -/
def zSC (L : zY) (m : zM) (c : Nat) (P : zP) : Prop := zt L c = 6 ∧ 2 ≤ c ∧ m c 0 = ((c + 1 : Nat) : Int) ∧ zt L (c + 1) = 20 ∧ zn L (c + 1) = 26 ∧ (∀ k, k < 26 → m (c + 1) k = pSo P k) ∧ m c 7 = ((c + 14 : Nat) : Int) ∧ m c 8 = ((c + 18 : Nat) : Int) ∧ m c 9 = ((c + 22 : Nat) : Int) ∧
  ∃ (eL eM eE : List (Int × Int)) (nL nM nE : Nat), zPT L m (c + 14) 14 eL nL (pLo P) ∧ zPT L m (c + 18) 16 eM nM (pMo P) ∧ zPT L m (c + 22) 19 eE nE (pEo P) ∧
    (∀ (k : Nat) (l : Int), k < 26 → zwith eL nL l ((k : Int) + 97) = if l = pLo P k ∧ l ≠ -2 ∧ pTw P k ≠ -2 then pTw P k else -2) ∧ (∀ (k : Nat) (x : Int), k < 26 → zwith eM nM x ((k : Int) + 97) = pVp P x k) ∧ (∀ (k : Nat) (x : Int), k < 26 → 0 < x → zwith eE nE x ((k : Int) + 97) = pEp P x k) ∧
    (∀ k, k < 26 → (pLo P k = -2 ∨ 0 ≤ pLo P k) ∧ (pMo P k = -2 ∨ 0 ≤ pMo P k) ∧ (pEo P k = -2 ∨ 0 < pEo P k) ∧ (pTw P k = -2 ∨ 0 ≤ pTw P k) ∧ (∀ x, pVp P x k = -2 ∨ 0 ≤ pVp P x k) ∧ (∀ x, pEp P x k = -2 ∨ 0 < pEp P x k)) ∧ (∀ k, k < 26 → -1 ≤ pSo P k ∧ pSo P k ≤ 4) ∧ (∀ k, k < 26 → pSo P k = 3 → pMo P k ≠ -2)
theorem msI_some {s : zMS} {x : zIt} (h : s.2.1 = some x) : msI s = s.1 ++ [x] := by unfold msI; rw [h]; rfl
theorem msI_none {s : zMS} (h : s.2.1 = none) : msI s = s.1 := by unfold msI; rw [h]; exact List.append_nil _
theorem zRP_push {m : zM} {o : Nat} {pl : List (Int × Int × Int)} {q : Int × Int × Int} (h : zRP m o pl) (hl : pl.length < 80) (h1 : m (o + 7) pl.length = q.1) (h2 : m (o + 8) pl.length = q.2.1) (h3 : m (o + 9) pl.length = q.2.2) : zRP (zup m o 10 ((pl.length : Int) + 1)) o (pl ++ [q]) := by
  obtain ⟨a0, a1, b1, b2, b3⟩ := h
  have app : ∀ {a : Nat} {f : Int × Int × Int → Int}, a ≠ o → zAL m a 0 (pl.map f) → m a pl.length = f q → zAL (zup m o 10 ((pl.length : Int) + 1)) a 0 ((pl ++ [q]).map f) := fun {a f} ha h hv => by
    refine zAL_eq (m := m) (zup_nf ha) ?_
    intro i x hi
    rw [List.map_append] at hi
    by_cases hlt : i < pl.length
    · rw [List.getElem?_append_left (by rw [List.length_map]; exact hlt)] at hi
      exact h i x hi
    · rw [List.getElem?_append_right (by rw [List.length_map]; omega), List.length_map] at hi
      have h0 : i - pl.length < 1 := (List.getElem?_eq_some_iff.mp hi).1
      have e : i = pl.length := by omega
      subst e
      simp at hi
      rw [Nat.zero_add, hv]
      exact hi
  exact ⟨by rw [zup_same, List.length_append]; rfl, by rw [List.length_append]; exact hl, app (by omega) b1 h1, app (by omega) b2 h2, app (by omega) b3 h3⟩
