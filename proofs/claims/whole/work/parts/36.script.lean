/-! a SCRIPT as told: sorts, CONSONANTS, VOWELS, OLD KEYS, twins, pairs -/
abbrev zD : Type := (Nat → Int) × List Nat × List Nat × List Nat × List Nat × List (Nat × Nat)
def dS (D : zD) : Nat → Int := D.1
def dC (D : zD) : List Nat := D.2.1
def dV (D : zD) : List Nat := D.2.2.1
def dO (D : zD) : List Nat := D.2.2.2.1
def dT (D : zD) : List Nat := D.2.2.2.2.1
def dP (D : zD) : List (Nat × Nat) := D.2.2.2.2.2
def kk (k : Nat) : Int := (k : Int) + 97
def cLe (D : zD) (k : Nat) : Bool := decide (dS D k = 0) || decide (dS D k = 1)
def cFi (D : zD) (k : Nat) : Bool := decide (dS D k = 1) || decide (dS D k = 2)
def cVo (D : zD) (k : Nat) : Bool := decide (dS D k = 3)
/-- single LEADS, single ENDS, pairs of VOWELS, of ENDS -/
def dLe (D : zD) : List Nat := (dC D).filter (cLe D)
def dEn (D : zD) : List Nat := (dC D).filter (cFi D)
def dPV (D : zD) : List (Nat × Nat) := (dP D).filter (fun q => cVo D q.1)
def dPE (D : zD) : List (Nat × Nat) := (dP D).filter (fun q => !cVo D q.1)
def k2 (q : Nat × Nat) : Int × Int := (kk q.1, kk q.2)
def k1 (k : Nat) : Int × Int := (kk k, -2)
def dTL (D : zD) : List (Int × Int) := (dLe D).map k1 ++ (dT D).map (fun k => (kk k, kk k))
def dTM (D : zD) : List (Int × Int) := (dV D).map k1 ++ (dPV D).map k2
def dTE (D : zD) : List (Int × Int) := [(-2, -2)] ++ (dEn D).map k1 ++ (dPE D).map k2
/-- the number of a KEY in a list from place i on; the latest place counts -/
def ixf (xs : List Nat) (i : Nat) (f : Nat → Int) : Nat → Int := match xs with
  | [] => f
  | x :: t => ixf t (i + 1) (fun k => if k = x then (i : Int) else f k)
def dNL (D : zD) : Nat → Int := ixf (dLe D) 0 (fun _ => -2)
def dNM (D : zD) : Nat → Int := ixf (dV D) 0 (fun _ => -2)
def dNE (D : zD) : Nat → Int := ixf (dEn D) 1 (fun _ => -2)
theorem ixf_app {xs : List Nat} {i x : Nat} {f : Nat → Int} : ixf (xs ++ [x]) i f = fun k => if k = x then ((i + xs.length : Nat) : Int) else ixf xs i f k := by
  induction xs generalizing i f with
  | nil => rfl
  | cons y t ih =>
    rw [List.cons_append, ixf, ih, ixf, List.length_cons]
    have e : i + 1 + t.length = i + (t.length + 1) := by omega
    rw [e]
/-- what is so of each SCRIPT, also of one half told -/
def dOk (D : zD) : Prop := ((∀ k ∈ dC D, k < 26 ∧ 0 ≤ dS D k ∧ dS D k ≤ 2) ∧ (∀ k ∈ dV D, k < 26 ∧ dS D k = 3) ∧ (∀ k ∈ dO D, k < 26 ∧ dS D k = 4) ∧ (∀ k ∈ dT D, k < 26 ∧ cLe D k = true) ∧ (∀ q ∈ dP D, q.1 < 26 ∧ q.2 < 26 ∧ ((cVo D q.1 = true ∧ cVo D q.2 = true) ∨ (cFi D q.1 = true ∧ cFi D q.2 = true)))) ∧
  ((dC D).Nodup ∧ (dV D).Nodup ∧ (dO D).Nodup ∧ (dT D).Nodup ∧ (dP D).Nodup) ∧ ((dC D).length ≤ 10 ∧ (dV D).length ≤ 8 ∧ (dO D).length ≤ 4 ∧ (dT D).length ≤ 4 ∧ (dP D).length ≤ 8) ∧
  ∀ k, dS D k = -1 ∨ (0 ≤ dS D k ∧ dS D k ≤ 2 ∧ k ∈ dC D) ∨ (dS D k = 3 ∧ k ∈ dV D) ∨ (dS D k = 4 ∧ k ∈ dO D)
/-- a Script at c: what is told -/
def zSd (L : zY) (m : zM) (c : Nat) (D : zD) : Prop := (zt L c = 6 ∧ 2 ≤ c ∧ m c 0 = ((c + 1 : Nat) : Int) ∧ m c 1 = ((c + 2 : Nat) : Int) ∧ m c 2 = ((c + 4 : Nat) : Int) ∧ m c 3 = ((c + 6 : Nat) : Int) ∧ m c 4 = ((c + 8 : Nat) : Int) ∧ m c 5 = ((c + 10 : Nat) : Int) ∧ m c 6 = ((c + 12 : Nat) : Int) ∧ m c 7 = ((c + 14 : Nat) : Int) ∧ m c 8 = ((c + 18 : Nat) : Int) ∧ m c 9 = ((c + 22 : Nat) : Int) ∧ zt L (c + 1) = 20 ∧ zn L (c + 1) = 26) ∧
  (∀ k, k < 26 → m (c + 1) k = dS D k) ∧ zKL L m (c + 2) 10 ((dC D).map kk) ∧ zKL L m (c + 4) 8 ((dV D).map kk) ∧ zKL L m (c + 6) 4 ((dO D).map kk) ∧ zKL L m (c + 8) 4 ((dT D).map kk) ∧ zKL L m (c + 10) 8 ((dP D).map (fun q => kk q.1)) ∧ zKL L m (c + 12) 8 ((dP D).map (fun q => kk q.2))
theorem zSd_eq {L : zY} {m m' : zM} {c : Nat} {D : zD} (h : ∀ a, c ≤ a → a ≤ c + 13 → m' a = m a) (hh : zSd L m c D) : zSd L m' c D := by
  obtain ⟨⟨a1, a2, b0, b1, b2, b3, b4, b5, b6, b7, b8, b9, a3, a4⟩, a5, l1, l2, l3, l4, l5, l6⟩ := hh
  have e := h c (by omega) (by omega)
  exact ⟨⟨a1, a2, by rw [e]; exact b0, by rw [e]; exact b1, by rw [e]; exact b2, by rw [e]; exact b3, by rw [e]; exact b4, by rw [e]; exact b5, by rw [e]; exact b6, by rw [e]; exact b7, by rw [e]; exact b8, by rw [e]; exact b9, a3, a4⟩, fun k hk => by rw [h (c + 1) (by omega) (by omega)]; exact a5 k hk,
    zKL_eq (h _ (by omega) (by omega)) (h _ (by omega) (by omega)) l1, zKL_eq (h _ (by omega) (by omega)) (h _ (by omega) (by omega)) l2, zKL_eq (h _ (by omega) (by omega)) (h _ (by omega) (by omega)) l3, zKL_eq (h _ (by omega) (by omega)) (h _ (by omega) (by omega)) l4, zKL_eq (h _ (by omega) (by omega)) (h _ (by omega) (by omega)) l5, zKL_eq (h _ (by omega) (by omega)) (h _ (by omega) (by omega)) l6⟩
theorem x_sk {L : zY} {m : zM} {Q : zQ} {c : Nat} {D : zD} {sign : Int} (h : zSd L m c D) : zwp 58 0 [zA c, zI sign] [] L m Q ↔ Q (some (zI (if 97 ≤ sign ∧ sign < 123 then dS D (sign - 97).toNat else -1))) L m := by
  obtain ⟨⟨a1, a2, b0, b1, b2, b3, b4, b5, b6, b7, b8, b9, a3, a4⟩, a5, -⟩ := h
  by_cases hs : 97 ≤ sign ∧ sign < 123
  · obtain ⟨k, hk, rfl⟩ : ∃ k : Nat, k < 26 ∧ sign = (k : Int) + 97 := ⟨(sign - 97).toNat, by omega, by omega⟩
    have e1 : ¬ (k : Int) + 97 < 97 := by omega
    have e2 : ¬ 123 ≤ (k : Int) + 97 := by omega
    have e3 : 0 ≤ (k : Int) ∧ (k : Int) < ((26 : Nat) : Int) := by omega
    have e4 : ((k : Int) + 97 - 97).toNat = k := by omega
    simp only [s58_0, s58_1, s58_4, s58_7, s58_8, s58_11, s58_12, s58_14, s58_15, s58_16, s58_19, s58_20, s158_0, s158_1, s158_3, s158_6, s158_7, s158_9, s158_12, s158_13, s158_16, s158_17, Int.toNat_natCast, true_and, and_true, true_or, or_true, false_or, or_false, zwr_id, zpu_some, zpu_none, reduceIte, Int.reduceLE, Int.reduceLT, Int.reduceEq, Int.reduceNeg, Int.reduceAdd, Int.reduceSub, Int.reduceMul, Int.reduceToNat, Nat.reduceAdd, Nat.reduceLeDiff, Nat.reduceEqDiff, Nat.reduceLT, eq_self, ne_eq, not_false_eq_true, not_true_eq_false, a1, b0, a3, a4, e1, e2, e3, and_self, a5 k hk, (show zwr ((k : Int) + 97 - 97) = (k : Int) by rw [zwr_id (by omega) (by omega)]; omega), hs, e4]
  · by_cases h1 : sign < 97
    · simp only [s58_0, s58_1, s58_4, s58_7, s58_8, s58_11, s58_12, s58_14, s58_15, s58_16, s58_19, s58_20, s158_0, s158_1, s158_3, s158_6, s158_7, s158_9, s158_12, s158_13, s158_16, s158_17, Int.toNat_natCast, true_and, and_true, true_or, or_true, false_or, or_false, zwr_id, zpu_some, zpu_none, reduceIte, Int.reduceLE, Int.reduceLT, Int.reduceEq, Int.reduceNeg, Int.reduceAdd, Int.reduceSub, Int.reduceMul, Int.reduceToNat, Nat.reduceAdd, Nat.reduceLeDiff, Nat.reduceEqDiff, Nat.reduceLT, eq_self, ne_eq, not_false_eq_true, not_true_eq_false, a1, h1, hs]
    · have h2 : 123 ≤ sign := by omega
      simp only [s58_0, s58_1, s58_4, s58_7, s58_8, s58_11, s58_12, s58_14, s58_15, s58_16, s58_19, s58_20, s158_0, s158_1, s158_3, s158_6, s158_7, s158_9, s158_12, s158_13, s158_16, s158_17, Int.toNat_natCast, true_and, and_true, true_or, or_true, false_or, or_false, zwr_id, zpu_some, zpu_none, reduceIte, Int.reduceLE, Int.reduceLT, Int.reduceEq, Int.reduceNeg, Int.reduceAdd, Int.reduceSub, Int.reduceMul, Int.reduceToNat, Nat.reduceAdd, Nat.reduceLeDiff, Nat.reduceEqDiff, Nat.reduceLT, eq_self, ne_eq, not_false_eq_true, not_true_eq_false, a1, h1, h2, hs]
theorem x_skk {L : zY} {m : zM} {Q : zQ} {c k : Nat} {D : zD} (h : zSd L m c D) (hk : k < 26) : zwp 58 0 [zA c, zI (kk k)] [] L m Q ↔ Q (some (zI (dS D k))) L m := by
  rw [x_sk h, kk, if_pos (by omega), show ((k : Int) + 97 - 97).toNat = k by omega]
theorem x_isKey {L : zY} {m : zM} {Q : zQ} {c : Nat} {D : zD} {sign : Int} (h : zSd L m c D) : zwp 59 0 [zA c, zI sign] [] L m Q ↔ Q (some (zI (if 97 ≤ sign ∧ sign < 123 ∧ dS D (sign - 97).toNat ≠ -1 then 1 else 0))) L m := by
  simp only [s59_0, s59_1, s59_2, s59_5, s59_6, s59_9, s59_10, s59_13, s59_14, Int.toNat_natCast, true_and, and_true, true_or, or_true, false_or, or_false, zwr_id, zpu_some, zpu_none, reduceIte, Int.reduceLE, Int.reduceLT, Int.reduceEq, Int.reduceNeg, Int.reduceAdd, Int.reduceSub, Int.reduceMul, Int.reduceToNat, Nat.reduceAdd, Nat.reduceLeDiff, Nat.reduceEqDiff, Nat.reduceLT, eq_self, ne_eq, not_false_eq_true, not_true_eq_false, h.1.1, x_sk h]
  by_cases hs : 97 ≤ sign ∧ sign < 123
  · rw [if_pos hs]
    by_cases e : dS D (sign - 97).toNat = -1
    · rw [if_pos e, if_neg (fun q => q.2.2 e)]
    · rw [if_neg e, if_pos ⟨hs.1, hs.2, e⟩]
  · rw [if_neg hs, if_pos rfl, if_neg (fun q => hs ⟨q.1, q.2.1⟩)]
theorem x_canLead {L : zY} {m : zM} {Q : zQ} {c k : Nat} {D : zD} (h : zSd L m c D) (hk : k < 26) : zwp 60 0 [zA c, zI (kk k), zU] [] L m Q ↔ Q (some (zI (if cLe D k then 1 else 0))) L m := by
  simp only [s60_0, s60_1, s60_2, s60_5, s60_6, s60_7, s60_10, s60_11, s60_12, s60_15, s60_16, s60_19, s60_20, Int.toNat_natCast, true_and, and_true, true_or, or_true, false_or, or_false, zwr_id, zpu_some, zpu_none, reduceIte, Int.reduceLE, Int.reduceLT, Int.reduceEq, Int.reduceNeg, Int.reduceAdd, Int.reduceSub, Int.reduceMul, Int.reduceToNat, Nat.reduceAdd, Nat.reduceLeDiff, Nat.reduceEqDiff, Nat.reduceLT, eq_self, ne_eq, not_false_eq_true, not_true_eq_false, h.1.1, x_skk h hk, cLe]
  by_cases e : dS D k = 0
  · simp [e]
  · by_cases e2 : dS D k = 1
    · simp [e2]
    · simp [e, e2]
theorem x_canFi {L : zY} {m : zM} {Q : zQ} {c k : Nat} {D : zD} (h : zSd L m c D) (hk : k < 26) : zwp 61 0 [zA c, zI (kk k), zU] [] L m Q ↔ Q (some (zI (if cFi D k then 1 else 0))) L m := by
  simp only [s61_0, s61_1, s61_2, s61_5, s61_6, s61_7, s61_8, s61_11, s61_12, s61_13, s61_16, s61_17, s61_20, s61_21, Int.toNat_natCast, true_and, and_true, true_or, or_true, false_or, or_false, zwr_id, zpu_some, zpu_none, reduceIte, Int.reduceLE, Int.reduceLT, Int.reduceEq, Int.reduceNeg, Int.reduceAdd, Int.reduceSub, Int.reduceMul, Int.reduceToNat, Nat.reduceAdd, Nat.reduceLeDiff, Nat.reduceEqDiff, Nat.reduceLT, eq_self, ne_eq, not_false_eq_true, not_true_eq_false, h.1.1, x_skk h hk, cFi]
  by_cases e : dS D k = 1
  · simp [e]
  · by_cases e2 : dS D k = 2
    · simp [e2]
    · simp [e, e2]
theorem x_isVow {L : zY} {m : zM} {Q : zQ} {c k : Nat} {D : zD} (h : zSd L m c D) (hk : k < 26) : zwp 62 0 [zA c, zI (kk k)] [] L m Q ↔ Q (some (zI (if cVo D k then 1 else 0))) L m := by
  simp only [s62_0, s62_1, s62_2, s62_5, s62_6, s62_9, s62_10, s62_13, s62_14, Int.toNat_natCast, true_and, and_true, true_or, or_true, false_or, or_false, zwr_id, zpu_some, zpu_none, reduceIte, Int.reduceLE, Int.reduceLT, Int.reduceEq, Int.reduceNeg, Int.reduceAdd, Int.reduceSub, Int.reduceMul, Int.reduceToNat, Nat.reduceAdd, Nat.reduceLeDiff, Nat.reduceEqDiff, Nat.reduceLT, eq_self, ne_eq, not_false_eq_true, not_true_eq_false, h.1.1, x_skk h hk, cVo]
  by_cases e : dS D k = 3
  · simp [e]
  · simp [e]
