/-! counting rows: states as the class numbers them -/
def sm (f : Nat → Int) : Nat → Int
  | 0 => 0
  | n + 1 => sm f n + f n
def tFr (P : zP) (k : Nat) : Nat × Nat := if pSo P k = 3 then (15 + (pMo P k).toNat, 1) else if pLo P k ≠ -2 then (1 + (pLo P k).toNat, 1) else (0, 1)
def tMv (P : zP) (st k : Nat) : Nat × Nat :=
  if 1 ≤ st ∧ st < 15 then (if pSo P k = 3 then (31 + (pMo P k).toNat, 0) else if pSo P k ≠ 4 ∧ pLo P k = ((st - 1 : Nat) : Int) ∧ pTw P k ≠ -2 then (1 + (pTw P k).toNat, 0) else tFr P k)
  else if 15 ≤ st ∧ st < 31 then (if pSo P k = 3 ∧ pVp P ((st - 15 : Nat) : Int) k ≠ -2 then (15 + (pVp P ((st - 15 : Nat) : Int) k).toNat, 0) else tFr P k)
  else if 31 ≤ st ∧ st < 47 then (if pSo P k = 3 then (if pVp P ((st - 31 : Nat) : Int) k ≠ -2 then (31 + (pVp P ((st - 31 : Nat) : Int) k).toNat, 0) else tFr P k) else if pSo P k ≠ 4 ∧ pEo P k ≠ -2 then (47 + (pEo P k).toNat, 0) else tFr P k)
  else if 48 ≤ st then (if pSo P k = 3 then (if pLo P (pLa P ((st - 47 : Nat) : Int)) ≠ -2 then (31 + (pMo P k).toNat, 1) else tFr P k) else if pSo P k ≠ 4 ∧ pEp P ((st - 47 : Nat) : Int) k ≠ -2 then (47 + (pEp P ((st - 47 : Nat) : Int) k).toNat, 0) else tFr P k)
  else tFr P k
def tEx (D : zD) (st : Nat) : Bool := decide (st = 0) || (decide (1 ≤ st ∧ st < 15 ∧ st - 1 < dnL D) || (decide (15 ≤ st ∧ st < 31 ∧ st - 15 < dnM D) || (decide (31 ≤ st ∧ st < 47 ∧ st - 31 < dnM D) || decide (48 ≤ st ∧ st - 47 < dnE D))))
/-- one KEY in one state: what comes into state s with i ITEMS -/
def tGo (D : zD) (T : Nat → Nat → Int) (st k s i : Nat) : Int := if dS D k ≠ -1 ∧ tEx D st = true ∧ (tMv (zPof D) st k).1 = s ∧ (tMv (zPof D) st k).2 ≤ i then T st (i - (tMv (zPof D) st k).2) else 0
def tF (D : zD) : Nat → Nat → Nat → Int
  | 0, s, i => if s = 0 ∧ i = 0 then 1 else 0
  | n + 1, s, i => sm (fun st => sm (fun k => tGo D (tF D n) st k s i) 26) 66
def tW (D : zD) (n i : Nat) : Int := sm (fun st => tF D n st i) 66
def tLd (st : Nat) : Bool := decide (1 ≤ st ∧ st < 15)
def tBk (st : Nat) : Bool := decide (31 ≤ st)
def bGo (D : zD) (T : Nat → Int) (st k s : Nat) : Int := if dS D k ≠ -1 ∧ tEx D st = true ∧ (tMv (zPof D) st k).1 = s ∧ ¬ (tLd st = true ∧ (tMv (zPof D) st k).2 = 1) ∧ (tLd s = true ∨ tBk s = true) then T st else 0
def bF (D : zD) : Nat → Nat → Int
  | 0, s => if s = 0 then 1 else 0
  | n + 1, s => sm (fun st => sm (fun k => bGo D (bF D n) st k s) 26) 66
def tB (D : zD) (n : Nat) : Int := sm (fun st => if tLd st = true then 0 else bF D n st) 66
/-- the Tally at 64 -/
def zTlL (L : zY) (m : zM) : Prop := (zt L 64 = 8 ∧ zt L 65 = 22 ∧ zn L 65 = 66 ∧ zt L 132 = 23 ∧ zn L 132 = 66 ∧ zt L 199 = 23 ∧ zn L 199 = 66 ∧ zt L 266 = 21 ∧ zn L 266 = 66 ∧ zt L 267 = 21 ∧ zn L 267 = 66 ∧ zt L 268 = 23 ∧ zn L 268 = 9 ∧ zt L 278 = 21 ∧ zn L 278 = 9) ∧
  (∀ j, j < 66 → m 65 j = ((66 + j : Nat) : Int) ∧ zt L (66 + j) = 20 ∧ zn L (66 + j) = 26) ∧ (∀ j, j < 66 → m 132 j = ((133 + j : Nat) : Int) ∧ zt L (133 + j) = 21 ∧ zn L (133 + j) = 9) ∧ (∀ j, j < 66 → m 199 j = ((200 + j : Nat) : Int) ∧ zt L (200 + j) = 21 ∧ zn L (200 + j) = 9) ∧ (∀ j, j < 9 → m 268 j = ((269 + j : Nat) : Int) ∧ zt L (269 + j) = 21 ∧ zn L (269 + j) = 9) ∧
  (m 64 0 = 65 ∧ m 64 5 = 268 ∧ m 64 6 = 278 ∧ ((m 64 1 = 132 ∧ m 64 2 = 199) ∨ (m 64 1 = 199 ∧ m 64 2 = 132)) ∧ ((m 64 3 = 266 ∧ m 64 4 = 267) ∨ (m 64 3 = 267 ∧ m 64 4 = 266)))
def zTlc (m : zM) (D : zD) : Prop := ∀ n, n < 9 → (∀ i, i < 9 → m (269 + n) i = zwl (tW D n i)) ∧ m 278 n = zwl (tB D n)
def zTl (L : zY) (m : zM) (od : Option zD) : Prop := zTlL L m ∧ (m 64 7 = 0 ∨ (m 64 7 = 1 ∧ ∃ D, od = some D ∧ zTlc m D))
theorem zTl_eq {L : zY} {m m' : zM} {od : Option zD} (h : ∀ a, 64 ≤ a → a ≤ 278 → m' a = m a) (hh : zTl L m od) : zTl L m' od := by
  obtain ⟨⟨h0, h1, h2, h3, h4, h5⟩, h6⟩ := hh
  have e64 := h 64 (by decide) (by decide)
  refine ⟨⟨h0, fun j hj => ?_, fun j hj => ?_, fun j hj => ?_, fun j hj => ?_, ?_⟩, ?_⟩
  · rw [h 65 (by decide) (by decide)]; exact h1 j hj
  · rw [h 132 (by decide) (by decide)]; exact h2 j hj
  · rw [h 199 (by decide) (by decide)]; exact h3 j hj
  · rw [h 268 (by decide) (by decide)]; exact h4 j hj
  · rw [e64]; exact h5
  · rw [e64]
    rcases h6 with h6 | ⟨h6, D, e, h7⟩
    · exact Or.inl h6
    · refine Or.inr ⟨h6, D, e, fun n hn => ⟨fun i hi => ?_, ?_⟩⟩
      · rw [h _ (by omega) (by omega)]; exact (h7 n hn).1 i hi
      · rw [h 278 (by decide) (by decide)]; exact (h7 n hn).2
/-- the Scripts: that which stands at sc, the spare one at sp -/
def zScs (L : zY) (m : zM) (od : Option zD) (sc sp : Nat) : Prop := ((sc = 280 ∧ sp = 306) ∨ (sc = 306 ∧ sp = 280)) ∧ (∃ D, zSd L m sc D ∧ ∀ D', od = some D' → D = D' ∧ zSt L m sc D') ∧ zSl L m sc ∧ (∃ D, zSd L m sp D) ∧ zSl L m sp
theorem zScs_eq {L : zY} {m m' : zM} {od : Option zD} {sc sp : Nat} (h : ∀ a, 280 ≤ a → a ≤ 331 → m' a = m a) (hh : zScs L m od sc sp) : zScs L m' od sc sp := by
  obtain ⟨h0, ⟨D, h1, h2⟩, h3, ⟨D2, h4⟩, h5⟩ := hh
  exact ⟨h0, ⟨D, zSd_eq (fun a p q => h a (by omega) (by omega)) h1, fun D' e => ⟨(h2 D' e).1, zSt_eq (fun a p q => h a (by omega) (by omega)) (h2 D' e).2⟩⟩, zSl_eq (fun a p q => h a (by omega) (by omega)) h3, ⟨D2, zSd_eq (fun a p q => h a (by omega) (by omega)) h4⟩, zSl_eq (fun a p q => h a (by omega) (by omega)) h5⟩
def oP (od : Option zD) : zP := match od with
  | some D => zPof D
  | none => zPof dD0
/-- the class's cells but for the object itself -/
def zCB (L : zY) (m : zM) (T : List Int) (od : Option zD) (R : List Int) (C : Nat) (H : zHs) (sc sp : Nat) : Prop := zTp L m 4 T ∧ (zt L 3 = 7 ∧ m 3 0 = 4) ∧ (∃ ov, zRw L m 6 R (C : Int) ov) ∧ (∃ r c o, zRw L m 8 r c o) ∧ zRC L m 10 (kRun (oP od) R) ∧ zRL L m 20 ∧ zHi L m 30 H ∧ zTl L m od ∧ (zt L 279 = 20 ∧ zn L 279 = 80) ∧ zScs L m od sc sp
/-- the object -/
def zCO (L : zY) (m : zM) (od : Option zD) (f p q : Int) (sc sp : Nat) : Prop := zt L 2 = 10 ∧ (m 2 1 = 4 ∧ m 2 0 = 3 ∧ m 2 2 = 6 ∧ m 2 3 = 8 ∧ m 2 4 = 10 ∧ m 2 5 = 20 ∧ m 2 6 = 30 ∧ m 2 7 = 64 ∧ m 2 8 = 279 ∧ m 2 9 = (sc : Int) ∧ m 2 10 = (sp : Int)) ∧ m 2 11 = (match od with | some _ => 1 | none => 0) ∧ m 2 12 = f ∧ m 2 13 = p ∧ m 2 14 = q
theorem zRC_eq {L : zY} {m m' : zM} {o : Nat} {s : zMS} (h : ∀ a, o ≤ a → a ≤ o + 9 → m' a = m a) (hh : zRC L m o s) : zRC L m' o s := by
  obtain ⟨h1, h2, h3, h4, h5, h6⟩ := hh
  have e := h o (by omega) (by omega)
  exact ⟨zRL_eq (fun k _ => by rw [e]) h1, zRI_eq (by rw [e]) (h _ (by omega) (by omega)) (h _ (by omega) (by omega)) (h _ (by omega) (by omega)) (h _ (by omega) (by omega)) (h _ (by omega) (by omega)) (h _ (by omega) (by omega)) h2, zRP_eq (by rw [e]) (h _ (by omega) (by omega)) (h _ (by omega) (by omega)) (h _ (by omega) (by omega)) h3, by rw [e]; exact h4, by rw [e]; exact h5, h6⟩
theorem zCB_eq {L : zY} {m m' : zM} {T : List Int} {od : Option zD} {R : List Int} {C : Nat} {H : zHs} {sc sp : Nat} (h : ∀ a, 3 ≤ a → a ≤ 331 → m' a = m a) (hh : zCB L m T od R C H sc sp) : zCB L m' T od R C H sc sp := by
  obtain ⟨h1, h2, ⟨ov, h3⟩, ⟨r, c, o, h4⟩, h5, h6, h7, h8, h9, h10⟩ := hh
  exact ⟨zTp_eq (h _ (by decide) (by decide)) (h _ (by decide) (by decide)) h1, by rw [h 3 (by decide) (by decide)]; exact h2, ⟨ov, zRw_eq (h _ (by decide) (by decide)) (h _ (by decide) (by decide)) h3⟩, ⟨r, c, o, zRw_eq (h _ (by decide) (by decide)) (h _ (by decide) (by decide)) h4⟩, zRC_eq (fun a p q => h a (by omega) (by omega)) h5, zRL_eq (fun k _ => by rw [h 20 (by decide) (by decide)]) h6, zHi_eq (fun a p q => h a (by omega) (by omega)) h7, zTl_eq (fun a p q => h a (by omega) (by omega)) h8, h9, zScs_eq (fun a p q => h a (by omega) (by omega)) h10⟩
/-- answers: TROUBLE q, no place -/
theorem zCO_ans {L : zY} {m : zM} {od : Option zD} {f p q q' : Int} {sc sp : Nat} (h : zCO L m od f p q sc sp) : zCO L (zup (zup m 2 14 q') 2 13 (-1)) od f (-1) q' sc sp := by
  obtain ⟨a1, ⟨b0, b1, b2, b3, b4, b5, b6, b7, b8, b9, b10⟩, a2, a3, a4, a5⟩ := h
  have e : ∀ k, k ≠ 14 → k ≠ 13 → zup (zup m 2 14 q') 2 13 (-1) 2 k = m 2 k := fun k h1 h2 => by rw [zup_nk h2, zup_nk h1]
  refine ⟨a1, ⟨?_, ?_, ?_, ?_, ?_, ?_, ?_, ?_, ?_, ?_, ?_⟩, ?_, ?_, zup_same, ?_⟩
  any_goals (rw [e _ (by decide) (by decide)]; assumption)
  rw [zup_nk (by decide), zup_same]
theorem zCB_ans {L : zY} {m : zM} {v w : Int} {j k : Nat} {T : List Int} {od : Option zD} {R : List Int} {C : Nat} {H : zHs} {sc sp : Nat} (hh : zCB L m T od R C H sc sp) : zCB L (zup (zup m 2 j v) 2 k w) T od R C H sc sp := zCB_eq (fun a p q => by rw [zup_nf (by omega), zup_nf (by omega)]) hh
/-- what the calls are about: THE TAPE, THE SCRIPT, THE ROW, THE CARET, the ACTS, the FAULT, its place, the TROUBLE -/
abbrev zG : Type := List Int × Option zD × List Int × Nat × zHs × Int × Int × Int
def gSg (D : zD) (x : Int) : Bool := decide (x = 124) || (isL x && decide (dS D (x - 97).toNat ≠ -1))
def gOk (g : zG) : Prop := match g with
  | (T, od, R, C, H, _, _, _) => (T.length ≤ 300 ∧ ∀ x ∈ T, 0 ≤ x ∧ x < 256) ∧ (∀ D, od = some D → dOk D ∧ dLacks D = false ∧ (∀ x ∈ R, gSg D x = true) ∧ ∀ q ∈ H, q.1.length ≤ 80 ∧ q.2 ≤ q.1.length ∧ ∀ x ∈ q.1, gSg D x = true) ∧ (od = none → R = [] ∧ C = 0 ∧ H = []) ∧ R.length ≤ 80 ∧ C ≤ R.length ∧ H.length ≤ 30
def zCI (L : zY) (m : zM) (g : zG) : Prop := match g with
  | (T, od, R, C, H, f, p, q) => ∃ sc sp, zCO L m od f p q sc sp ∧ zCB L m T od R C H sc sp
