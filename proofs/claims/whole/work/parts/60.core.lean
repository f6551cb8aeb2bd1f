/-! THE MACHINE without places: an ITEM's LEAD, MIDDLE, END and (of what is ALONE) its KEY -/
abbrev zCo : Type := Int × Int × Int × Int
def cOf (x : zIt) : zCo := (itL x, itM x, itE x, itO x)
abbrev zCs : Type := List zCo × Option zCo
def cFresh (P : zP) (c : Nat) : zCs := if pLo P c = -2 then ([(-2, -2, -2, kk c)], none) else ([], some (pLo P c, -2, -2, -2))
def cPut (o : zCo) (s : zCs) : zCs := (o :: s.1, s.2)
def cCons (P : zP) (c : Nat) (op : Option zCo) : zCs := match op with
  | none => cFresh P c
  | some o =>
    if o.1 = -2 then cPut o (cFresh P c)
    else if o.2.1 = -2 then (if o.1 = pLo P c ∧ pTw P c ≠ -2 then ([], some (pTw P c, o.2.1, o.2.2.1, -2)) else cPut o (cFresh P c))
    else if (if o.2.2.1 = -2 then pEo P c else pEp P o.2.2.1 c) = -2 then cPut o (cFresh P c) else ([], some (o.1, o.2.1, (if o.2.2.1 = -2 then pEo P c else pEp P o.2.2.1 c), -2))
def cVow (P : zP) (v : Nat) (op : Option zCo) : zCs := match op with
  | none => ([], some (-2, pMo P v, -2, -2))
  | some o =>
    if o.1 ≠ -2 ∧ o.2.1 = -2 then ([], some (o.1, pMo P v, o.2.2.1, -2))
    else if o.2.2.1 ≠ -2 then (if pLo P (pLa P o.2.2.1) = -2 then ([o], some (-2, pMo P v, -2, -2)) else ([(o.1, o.2.1, pCu P o.2.2.1, -2)], some (pLo P (pLa P o.2.2.1), pMo P v, -2, -2)))
    else (if pVp P o.2.1 v = -2 then ([o], some (-2, pMo P v, -2, -2)) else ([], some (o.1, pVp P o.2.1 v, o.2.2.1, -2)))
def cSign (P : zP) (x : Int) (op : Option zCo) : zCs :=
  if 97 ≤ x ∧ x < 123 ∧ pSo P (x - 97).toNat ≠ -1 then
    (if pSo P (x - 97).toNat = 4 then (op.toList ++ [(-2, -2, -2, kk (x - 97).toNat)], none) else if pSo P (x - 97).toNat = 3 then cVow P (x - 97).toNat op else cCons P (x - 97).toNat op)
  else (op.toList, none)
def cGo (P : zP) : List Int → Option zCo → zCs
  | [], op => ([], op)
  | x :: t, op => ((cSign P x op).1 ++ (cGo P t (cSign P x op).2).1, (cGo P t (cSign P x op).2).2)
theorem cGo_snoc {P : zP} {xs : List Int} {x : Int} {op : Option zCo} : cGo P (xs ++ [x]) op = ((cGo P xs op).1 ++ (cSign P x (cGo P xs op).2).1, (cSign P x (cGo P xs op).2).2) := by
  induction xs generalizing op with
  | nil => simp only [List.nil_append, cGo, List.append_nil]
  | cons y t ih => rw [List.cons_append, cGo, ih, cGo, List.append_assoc]
theorem cGo_app {P : zP} {xs ys : List Int} {op : Option zCo} : cGo P (xs ++ ys) op = ((cGo P xs op).1 ++ (cGo P ys (cGo P xs op).2).1, (cGo P ys (cGo P xs op).2).2) := by
  induction xs generalizing op with
  | nil => simp only [List.nil_append, cGo]
  | cons y t ih => rw [List.cons_append, cGo, ih, cGo, List.append_assoc]
theorem itO_no {x : zIt} (h : ¬ (itL x = -2 ∧ itM x = -2)) : itO x = -2 := if_neg h
theorem cOf_open {x : zIt} (h : ¬ (itL x = -2 ∧ itM x = -2)) : cOf x = (itL x, itM x, itE x, -2) := by unfold cOf; rw [itO_no h]
/-- closed and open ITEMS of a state, bare of places -/
def cCl (s : zMS) : List zCo := s.1.map cOf
def cOp (s : zMS) : Option zCo := s.2.1.map cOf
theorem cOf_mk {l mm e k f n : Int} (h : ¬ (l = -2 ∧ mm = -2)) : cOf (l, mm, e, k, f, n) = (l, mm, e, -2) := cOf_open (x := (l, mm, e, k, f, n)) h
theorem cOf_al {e k f n : Int} : cOf (-2, -2, e, k, f, n) = (-2, -2, e, k + 97) := rfl
theorem kJoin_c {s : zMS} {x : zIt} {role : Int} : cCl (kJoin s x role) = cCl s ∧ cOp (kJoin s x role) = some (cOf x) := ⟨rfl, rfl⟩
theorem msI_c {s : zMS} : (msI s).map cOf = cCl s ++ (cOp s).toList := by
  unfold msI cCl cOp
  rw [List.map_append]
  cases s.2.1 <;> rfl
theorem kNew_c {s : zMS} {x : zIt} {role : Int} : cCl (kNew s x role) = cCl s ++ (cOp s).toList ∧ cOp (kNew s x role) = some (cOf x) := ⟨msI_c, rfl⟩
theorem kAlone_c {s : zMS} {x : zIt} : cCl (kAlone s x) = cCl s ++ ((cOp s).toList ++ [cOf x]) ∧ cOp (kAlone s x) = none := by
  refine ⟨?_, rfl⟩
  show (msI s ++ [x]).map cOf = _
  rw [List.map_append, msI_c, List.append_assoc]
  rfl
theorem kFresh_c {P : zP} {c : Nat} {s : zMS} : cCl (kFresh P c s) = cCl s ++ ((cOp s).toList ++ (cFresh P c).1) ∧ cOp (kFresh P c s) = (cFresh P c).2 := by
  unfold kFresh cFresh
  by_cases h : pLo P c = -2
  · rw [if_pos h, if_pos h]
    exact kAlone_c
  · rw [if_neg h, if_neg h]
    have := kNew_c (s := s) (x := (pLo P c, -2, -2, (c : Int), (s.2.2.1.length : Int), 1)) (role := 0)
    rw [this.1, this.2, cOf_mk (fun q => h q.1), List.append_nil]
    exact ⟨rfl, rfl⟩
theorem kCons_c {P : zP} {c : Nat} {s : zMS} (hs : ∀ x, s.2.1 = some x → ¬ (itL x = -2 ∧ itM x = -2)) (ht : pTw P c ≠ -2 → True) : cCl (kCons P c s) = cCl s ++ (cCons P c (cOp s)).1 ∧ cOp (kCons P c s) = (cCons P c (cOp s)).2 := by
  unfold kCons
  cases ho : s.2.1 with
  | none =>
    have e : cOp s = none := by unfold cOp; rw [ho]; rfl
    have := kFresh_c (P := P) (c := c) (s := s)
    rw [e] at this ⊢
    exact this
  | some x =>
    have hx := hs x ho
    have e : cOp s = some (itL x, itM x, itE x, -2) := by unfold cOp; rw [ho]; exact congrArg some (cOf_open hx)
    have fr := kFresh_c (P := P) (c := c) (s := s)
    rw [e] at fr ⊢
    have frr : cCl (kFresh P c s) = cCl s ++ (cPut (itL x, itM x, itE x, -2) (cFresh P c)).1 ∧ cOp (kFresh P c s) = (cPut (itL x, itM x, itE x, -2) (cFresh P c)).2 := fr
    dsimp only
    unfold cCons
    dsimp only
    by_cases h1 : itL x = -2
    · rw [if_pos h1, if_pos h1]; exact frr
    · rw [if_neg h1, if_neg h1]
      by_cases h2 : itM x = -2
      · rw [if_pos h2, if_pos h2]
        by_cases h3 : itL x = pLo P c ∧ pTw P c ≠ -2
        · rw [if_pos h3, if_pos h3]
          have := kJoin_c (s := s) (x := (pTw P c, itM x, itE x, itK x, itF x, itN x + 1)) (role := 0)
          rw [this.1, this.2, cOf_mk (fun q => h3.2 q.1), List.append_nil]
          exact ⟨rfl, rfl⟩
        · rw [if_neg h3, if_neg h3]; exact frr
      · rw [if_neg h2, if_neg h2]
        by_cases h4 : (if itE x = -2 then pEo P c else pEp P (itE x) c) = -2
        · rw [if_pos h4, if_pos h4]; exact frr
        · rw [if_neg h4, if_neg h4]
          have := kJoin_c (s := s) (x := (itL x, itM x, (if itE x = -2 then pEo P c else pEp P (itE x) c), itK x, itF x, itN x + 1)) (role := 2)
          rw [this.1, this.2, cOf_mk (fun q => h1 q.1), List.append_nil]
          exact ⟨rfl, rfl⟩
theorem kVow_c {P : zP} {v : Nat} {s : zMS} (hs : ∀ x, s.2.1 = some x → ¬ (itL x = -2 ∧ itM x = -2)) (hm : pMo P v ≠ -2) : cCl (kVow P v s) = cCl s ++ (cVow P v (cOp s)).1 ∧ cOp (kVow P v s) = (cVow P v (cOp s)).2 := by
  have nw : cCl (kVnew P v s) = cCl s ++ (cOp s).toList ∧ cOp (kVnew P v s) = some (-2, pMo P v, -2, -2) := by
    have := kNew_c (s := s) (x := (-2, pMo P v, -2, (v : Int), (s.2.2.1.length : Int), 1)) (role := 1)
    rw [cOf_mk (fun q => hm q.2)] at this
    exact this
  unfold kVow
  cases ho : s.2.1 with
  | none =>
    have e : cOp s = none := by unfold cOp; rw [ho]; rfl
    rw [e] at nw ⊢
    exact nw
  | some x =>
    have hx := hs x ho
    have e : cOp s = some (itL x, itM x, itE x, -2) := by unfold cOp; rw [ho]; exact congrArg some (cOf_open hx)
    rw [e] at nw ⊢
    dsimp only
    unfold cVow
    dsimp only
    by_cases h1 : itL x ≠ -2 ∧ itM x = -2
    · rw [if_pos h1, if_pos h1]
      have := kJoin_c (s := s) (x := (itL x, pMo P v, itE x, itK x, itF x, itN x + 1)) (role := 1)
      rw [this.1, this.2, cOf_mk (fun q => h1.1 q.1), List.append_nil]
      exact ⟨rfl, rfl⟩
    · rw [if_neg h1, if_neg h1]
      by_cases h2 : itE x ≠ -2
      · rw [if_pos h2, if_pos h2]
        by_cases h3 : pLo P (pLa P (itE x)) = -2
        · rw [if_pos h3, if_pos h3]; exact nw
        · rw [if_neg h3, if_neg h3]
          unfold kSteal
          refine ⟨?_, ?_⟩
          · show (s.1 ++ [_]).map cOf = _
            rw [List.map_append]
            show cCl s ++ [cOf (itL x, itM x, pCu P (itE x), itK x, itF x, itN x - 1)] = _
            rw [cOf_mk hx]
          · show some (cOf (pLo P (pLa P (itE x)), pMo P v, -2, (pLa P (itE x) : Int), (s.2.2.1.length : Int) - 1, 2)) = _
            rw [cOf_mk (fun q => h3 q.1)]
      · rw [if_neg h2, if_neg h2]
        by_cases h3 : pVp P (itM x) v = -2
        · rw [if_pos h3, if_pos h3]; exact nw
        · rw [if_neg h3, if_neg h3]
          have := kJoin_c (s := s) (x := (itL x, pVp P (itM x) v, itE x, itK x, itF x, itN x + 1)) (role := 1)
          rw [this.1, this.2, cOf_mk (fun q => h3 (by rw [q.2])), List.append_nil]
          exact ⟨rfl, rfl⟩
theorem kSign_c {P : zP} {N : Nat} {x : Int} {s : zMS} (hP : zPk P N) (hs : msX N s) : cCl (kSign P x s) = cCl s ++ (cSign P x (cOp s)).1 ∧ cOp (kSign P x s) = (cSign P x (cOp s)).2 := by
  have ho : ∀ y, s.2.1 = some y → ¬ (itL y = -2 ∧ itM y = -2) := fun y hy => (hs.2 y hy).1
  unfold kSign cSign
  by_cases h1 : 97 ≤ x ∧ x < 123 ∧ pSo P (x - 97).toNat ≠ -1
  · rw [if_pos h1, if_pos h1]
    by_cases h2 : pSo P (x - 97).toNat = 4
    · rw [if_pos h2, if_pos h2]
      exact kAlone_c
    · rw [if_neg h2, if_neg h2]
      by_cases h3 : pSo P (x - 97).toNat = 3
      · rw [if_pos h3, if_pos h3]
        exact kVow_c ho ((hP.1 _ (by omega)).2.2.2.2 h3)
      · rw [if_neg h3, if_neg h3]
        exact kCons_c ho (fun _ => trivial)
  · rw [if_neg h1, if_neg h1]
    exact ⟨msI_c, rfl⟩
theorem kGo_c {P : zP} {N : Nat} (hP : zPk P N) : ∀ (xs : List Int) (s : zMS), msX N s → cCl (kGo P xs s) = cCl s ++ (cGo P xs (cOp s)).1 ∧ cOp (kGo P xs s) = (cGo P xs (cOp s)).2 := by
  intro xs
  induction xs with
  | nil => intro s hs; exact ⟨(List.append_nil _).symm, rfl⟩
  | cons x t ih =>
    intro s hs
    obtain ⟨h1, h2⟩ := kSign_c (x := x) hP hs
    obtain ⟨g1, g2⟩ := ih (kSign P x s) (kSign_ok hP hs)
    rw [h2] at g1 g2
    rw [h1] at g1
    refine ⟨?_, g2⟩
    show cCl (kGo P t (kSign P x s)) = _
    rw [g1, List.append_assoc]
    rfl
/-- the ITEMS of a row, bare of places -/
def cIts (P : zP) (xs : List Int) : List zCo := (cGo P xs none).1 ++ (cGo P xs none).2.toList
theorem kRun_c {P : zP} {N : Nat} (hP : zPk P N) {xs : List Int} : (msI (kRun P xs)).map cOf = cIts P xs := by
  obtain ⟨h1, h2⟩ := kGo_c hP xs ms0 ms0_ok
  rw [msI_c]
  show cCl (kGo P xs ms0) ++ (cOp (kGo P xs ms0)).toList = _
  rw [h1, h2]
  rfl
