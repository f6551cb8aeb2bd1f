/-! the reference's states of counting -/
def sgS (st : Nat) : Nat := if st < 15 then st else if st < 31 then st + 25 else if st < 47 then st - 11 else st + 13
def taS (rs : Nat) : Nat := if rs < 15 then rs else if rs < 20 then 47 else if rs < 36 then rs + 11 else if rs < 40 then 47 else if rs < 56 then rs - 25 else if rs < 61 then 47 else if rs < 79 then rs - 13 else 47
theorem ta_sg {st : Nat} (h : st < 66) (h47 : st ≠ 47) : taS (sgS st) = st ∧ sgS st < 90 := by
  unfold taS sgS
  constructor
  · repeat' split
    all_goals omega
  · repeat' split
    all_goals omega
theorem sg_ta {rs st : Nat} (h : st < 66) (h47 : st ≠ 47) (hr : rs < 90) : taS rs = st ↔ rs = sgS st := by
  constructor
  · intro e
    subst e
    unfold taS at h h47 ⊢
    unfold sgS
    repeat' split at h47
    all_goals (repeat' split)
    all_goals omega
  · intro e
    rw [e]
    exact (ta_sg h h47).1
theorem ta_lt {rs : Nat} : taS rs < 66 ∨ 90 ≤ rs := by
  unfold taS
  repeat' split
  all_goals omega
theorem sm_spl {f : Nat → Int} {a : Nat} : ∀ b, sm f (a + b) = sm f a + sm (fun j => f (a + j)) b := by
  intro b
  induction b with
  | zero => rw [Nat.add_zero]; show _ = sm f a + 0; omega
  | succ b ih =>
    show sm f (a + b) + f (a + b) = sm f a + (sm (fun j => f (a + j)) b + f (a + b))
    rw [ih]
    omega
/-- summing over the reference's states is summing over the class's -/
theorem sm_ta {f : Nat → Int} (h : f 47 = 0) : sm (fun rs => f (taS rs)) 90 = sm f 66 := by
  have c : ∀ {g k : Nat → Int} {n : Nat}, (∀ j, j < n → g j = k j) → sm g n = sm k n := fun h => sm_cg h
  have e1 : sm (fun rs => f (taS rs)) 90 = sm (fun rs => f (taS rs)) 15 + sm (fun j => f (taS (15 + j))) 5 + sm (fun j => f (taS (20 + j))) 16 + sm (fun j => f (taS (36 + j))) 4 + sm (fun j => f (taS (40 + j))) 16 + sm (fun j => f (taS (56 + j))) 5 + sm (fun j => f (taS (61 + j))) 18 + sm (fun j => f (taS (79 + j))) 11 := by
    rw [show (90 : Nat) = 79 + 11 from rfl, sm_spl, show (79 : Nat) = 61 + 18 from rfl, sm_spl, show (61 : Nat) = 56 + 5 from rfl, sm_spl, show (56 : Nat) = 40 + 16 from rfl, sm_spl, show (40 : Nat) = 36 + 4 from rfl, sm_spl, show (36 : Nat) = 20 + 16 from rfl, sm_spl, show (20 : Nat) = 15 + 5 from rfl, sm_spl]
  have e2 : sm f 66 = sm f 15 + sm (fun j => f (15 + j)) 16 + sm (fun j => f (31 + j)) 16 + sm (fun j => f (47 + j)) 1 + sm (fun j => f (48 + j)) 18 := by
    rw [show (66 : Nat) = 48 + 18 from rfl, sm_spl, show (48 : Nat) = 47 + 1 from rfl, sm_spl, show (47 : Nat) = 31 + 16 from rfl, sm_spl, show (31 : Nat) = 15 + 16 from rfl, sm_spl]
  rw [e1, e2]
  have f0 : sm (fun rs => f (taS rs)) 15 = sm f 15 := c (fun j hj => by rw [show taS j = j by unfold taS; rw [if_pos hj]])
  have f1 : sm (fun j => f (taS (15 + j))) 5 = 0 := sm_0 (fun j hj => by rw [show taS (15 + j) = 47 by unfold taS; rw [if_neg (by omega), if_pos (by omega)], h])
  have f2 : sm (fun j => f (taS (20 + j))) 16 = sm (fun j => f (31 + j)) 16 := c (fun j hj => by rw [show taS (20 + j) = 31 + j by unfold taS; rw [if_neg (by omega), if_neg (by omega), if_pos (by omega)]; omega])
  have f3 : sm (fun j => f (taS (36 + j))) 4 = 0 := sm_0 (fun j hj => by rw [show taS (36 + j) = 47 by unfold taS; rw [if_neg (by omega), if_neg (by omega), if_neg (by omega), if_pos (by omega)], h])
  have f4 : sm (fun j => f (taS (40 + j))) 16 = sm (fun j => f (15 + j)) 16 := c (fun j hj => by rw [show taS (40 + j) = 15 + j by unfold taS; rw [if_neg (by omega), if_neg (by omega), if_neg (by omega), if_neg (by omega), if_pos (by omega)]; omega])
  have f5 : sm (fun j => f (taS (56 + j))) 5 = 0 := sm_0 (fun j hj => by rw [show taS (56 + j) = 47 by unfold taS; rw [if_neg (by omega), if_neg (by omega), if_neg (by omega), if_neg (by omega), if_neg (by omega), if_pos (by omega)], h])
  have f6 : sm (fun j => f (taS (61 + j))) 18 = sm (fun j => f (48 + j)) 18 := c (fun j hj => by rw [show taS (61 + j) = 48 + j by unfold taS; rw [if_neg (by omega), if_neg (by omega), if_neg (by omega), if_neg (by omega), if_neg (by omega), if_neg (by omega), if_pos (by omega)]; omega])
  have f7 : sm (fun j => f (taS (79 + j))) 11 = 0 := sm_0 (fun j hj => by rw [show taS (79 + j) = 47 by unfold taS; rw [if_neg (by omega), if_neg (by omega), if_neg (by omega), if_neg (by omega), if_neg (by omega), if_neg (by omega), if_neg (by omega)], h])
  have f8 : sm (fun j => f (47 + j)) 1 = 0 := by show 0 + f 47 = 0; omega
  rw [f0, f1, f2, f3, f4, f5, f6, f7, f8]
  omega
/-- counting as the reference does it; w: of BLOCKS alone -/
def blS (st : Nat) : Bool := decide (st = 0) || decide (31 ≤ st)
def hBad (w : Bool) (D : zD) (st k : Nat) : Bool := w && (decide ((tMv (zPof D) st k).2 = 1) && (!blS st || decide ((tMv (zPof D) st k).1 = 0)))
def hGo (w : Bool) (D : zD) (T : Nat → Nat → Int) (st k s i : Nat) : Int := if (dS D k ≠ -1 ∧ tEx D st = true) ∧ (tMv (zPof D) st k).1 = s ∧ (tMv (zPof D) st k).2 ≤ i ∧ hBad w D st k = false then T st (i - (tMv (zPof D) st k).2) else 0
def hF (w : Bool) (D : zD) : Nat → Nat → Nat → Int
  | 0, s, i => if s = 0 ∧ i = 0 then 1 else 0
  | n + 1, s, i => sm (fun st => sm (fun k => hGo w D (hF w D n) st k s i) 26) 66
theorem hF_tF {D : zD} : ∀ n s i, hF false D n s i = tF D n s i := by
  intro n
  induction n with
  | zero => intro s i; rfl
  | succ n ih =>
    intro s i
    show sm (fun st => sm (fun k => hGo false D (hF false D n) st k s i) 26) 66 = sm (fun st => sm (fun k => tGo D (tF D n) st k s i) 26) 66
    refine sm_cg (fun st _ => sm_cg (fun k _ => ?_))
    unfold hGo tGo
    rw [ih]
    refine ite_iff ?_
    constructor
    · rintro ⟨⟨a, b⟩, c, d, -⟩; exact ⟨a, b, c, d⟩
    · rintro ⟨a, b, c, d⟩; exact ⟨⟨a, b⟩, c, d, rfl⟩
theorem hF_ex {w : Bool} {D : zD} (hD : dOk D) (hlk : dLacks D = false) : ∀ n s i, tEx D s = false → hF w D n s i = 0 := by
  intro n
  cases n with
  | zero =>
    intro s i h
    show (if s = 0 ∧ i = 0 then (1 : Int) else 0) = 0
    refine if_neg (fun q => ?_)
    rw [q.1] at h
    cases h
  | succ n =>
    intro s i h
    refine sm_0 (fun st hst => sm_0 (fun k hk => ?_))
    unfold hGo
    refine if_neg (fun q => ?_)
    have := (tMv_mv hD hlk hk q.1.1 q.1.2).2.1
    rw [q.2.1, h] at this
    cases this
theorem hF_hi {w : Bool} {D : zD} (hD : dOk D) (hlk : dLacks D = false) : ∀ n s i, n < i → hF w D n s i = 0 := by
  intro n
  induction n with
  | zero =>
    intro s i h
    exact if_neg (fun q => by omega)
  | succ n ih =>
    intro s i h
    refine sm_0 (fun st hst => sm_0 (fun k hk => ?_))
    unfold hGo
    split
    · rename_i q
      have := (tMv_mv hD hlk hk q.1.1 q.1.2).2.2.2
      exact ih _ _ (by omega)
    · rfl
theorem sm_add {f g : Nat → Int} : ∀ n, sm (fun j => f j + g j) n = sm f n + sm g n := by
  intro n
  induction n with
  | zero => rfl
  | succ n ih =>
    show sm (fun j => f j + g j) n + (f n + g n) = sm f n + f n + (sm g n + g n)
    rw [ih]
    omega
theorem sm_sw {f : Nat → Nat → Int} : ∀ a b, sm (fun i => sm (fun j => f i j) b) a = sm (fun j => sm (fun i => f i j) a) b := by
  intro a
  induction a with
  | zero => intro b; exact (sm_0 (fun _ _ => rfl)).symm
  | succ a ih =>
    intro b
    show sm (fun i => sm (fun j => f i j) b) a + sm (fun j => f a j) b = sm (fun j => sm (fun i => f i j) a + f a j) b
    rw [ih, sm_add]
/-- a sum over numbers of ITEMS, shifted -/
theorem sm_sh {f : Nat → Int} {d N : Nat} (h : ∀ i, N - d ≤ i → i < N → f i = 0) (hd : d ≤ N) : sm (fun i => if d ≤ i then f (i - d) else 0) N = sm f N := by
  obtain ⟨M, rfl⟩ : ∃ M, N = d + M := ⟨N - d, by omega⟩
  rw [sm_spl]
  have e1 : sm (fun i => if d ≤ i then f (i - d) else 0) d = 0 := sm_0 (fun j hj => if_neg (by omega))
  have e2 : sm (fun j => if d ≤ d + j then f (d + j - d) else 0) M = sm f M := sm_cg (fun j _ => by rw [if_pos (by omega)]; congr 1; omega)
  have e3 : sm f (d + M) = sm f M := by
    rw [Nat.add_comm, sm_spl, sm_0 (n := d) (fun j hj => h (M + j) (by omega) (by omega))]
    omega
  rw [e1, e2, e3]
  omega
