/-! CODES: the KEYS that they have make them -/
def cCd (D : zD) (x : Int) : zCo := (dCL D x, dCM D x, (if dCE D x = 0 then -2 else dCE D x), -2)
theorem code_un {l mm c nM nE : Int} (hM : 0 < nM) (hE : 0 < nE) (h1 : 0 ≤ mm ∧ mm < nM) (h2 : 0 ≤ c ∧ c < nE) : ((l * nM + mm) * nE + c) / nE / nM = l ∧ ((l * nM + mm) * nE + c) / nE % nM = mm ∧ ((l * nM + mm) * nE + c) % nE = c := by
  have e1 := (Int.ediv_emod_unique (a := (l * nM + mm) * nE + c) (b := nE) (q := l * nM + mm) (r := c) hE).mpr ⟨by rw [Int.mul_comm nE]; omega, h2.1, h2.2⟩
  have e2 := (Int.ediv_emod_unique (a := l * nM + mm) (b := nM) (q := l) (r := mm) hM).mpr ⟨by rw [Int.mul_comm nM]; omega, h1.1, h1.2⟩
  rw [e1.1]
  exact ⟨e2.1, e2.2, e1.2⟩
theorem code_mk {D : zD} {x : Int} (hD : dOk D) (hl : dLacks D = false) : (dCL D x * (dnM D : Int) + dCM D x) * (dnE D : Int) + dCE D x = x := by
  unfold dCL dCM dCE
  rw [Int.ediv_mul_add_emod, Int.ediv_mul_add_emod]
theorem zcod_id {D : zD} {l mm c : Int} (hD : dOk D) (hlk : dLacks D = false) (h0 : 0 ≤ l ∧ l < (dnL D : Int)) (h1 : 0 ≤ mm ∧ mm < (dnM D : Int)) (h2 : 0 ≤ c ∧ c < (dnE D : Int)) : zcod D l mm c = (l * (dnM D : Int) + mm) * (dnE D : Int) + c ∧ dHas D ((l * (dnM D : Int) + mm) * (dnE D : Int) + c) := by
  obtain ⟨⟨a1, a2⟩, ⟨b1, b2⟩, c1, c2⟩ := dOk_n hD hlk
  obtain ⟨n1, n2, n3, n4⟩ := dN_all hD hlk
  obtain ⟨ln, rfl⟩ : ∃ n : Nat, l = (n : Int) := ⟨l.toNat, by omega⟩
  obtain ⟨mn, rfl⟩ : ∃ n : Nat, mm = (n : Int) := ⟨mm.toNat, by omega⟩
  obtain ⟨cn, rfl⟩ : ∃ n : Nat, c = (n : Int) := ⟨c.toNat, by omega⟩
  have k1 : (ln + 1) * dnM D ≤ dnL D * dnM D := Nat.mul_le_mul_right _ (by omega)
  have k2 : (ln * dnM D + mn + 1) * dnE D ≤ dnL D * dnM D * dnE D := Nat.mul_le_mul_right _ (by rw [Nat.add_mul] at k1; omega)
  rw [Nat.add_mul, Nat.one_mul] at k1 k2
  have e : ((ln : Int) * (dnM D : Int) + (mn : Int)) * (dnE D : Int) + (cn : Int) = (((ln * dnM D + mn) * dnE D + cn : Nat) : Int) := by push_cast; rfl
  have e1 : (ln : Int) * (dnM D : Int) = ((ln * dnM D : Nat) : Int) := by push_cast; rfl
  have e2 : ((ln * dnM D : Nat) : Int) + (mn : Int) = ((ln * dnM D + mn : Nat) : Int) := by push_cast; rfl
  have e3 : ((ln * dnM D + mn : Nat) : Int) * (dnE D : Int) = (((ln * dnM D + mn) * dnE D : Nat) : Int) := by push_cast; rfl
  have e4 : (((ln * dnM D + mn) * dnE D : Nat) : Int) + (cn : Int) = (((ln * dnM D + mn) * dnE D + cn : Nat) : Int) := by push_cast; rfl
  have k3 : ln * dnM D + mn ≤ (ln * dnM D + mn) * dnE D := Nat.le_mul_of_pos_right _ (by omega)
  refine ⟨?_, ?_⟩
  · rw [e]
    unfold zcod
    rw [e1, zwr_id (x := ((ln * dnM D : Nat) : Int)) (by omega) (by omega), e2, zwr_id (x := ((ln * dnM D + mn : Nat) : Int)) (by omega) (by omega), e3, zwr_id (x := (((ln * dnM D + mn) * dnE D : Nat) : Int)) (by omega) (by omega), e4, zwr_id (by omega) (by omega)]
  · rw [e]
    unfold dHas
    omega
/-- an ITEM has this CODE just if it is the CODE's -/
theorem code_eq {D : zD} {it : zIt} {x : Int} (hD : dOk D) (hlk : dLacks D = false) (hx : dHas D x) (hR : itR D it) : (if itSo it = 0 then zcod D (itL it) (itM it) (itC it) else -2) = x ↔ cOf it = cCd D x := by
  obtain ⟨⟨a1, a2⟩, ⟨b1, b2⟩, c1, c2⟩ := dOk_n hD hlk
  obtain ⟨r1, r2, r3⟩ := dC_rng hD hlk hx
  obtain ⟨q1, q2, q3, q4, q5⟩ := hR
  constructor
  · intro h
    by_cases hs : itSo it = 0
    · rw [if_pos hs] at h
      have hL : itL it ≠ -2 ∧ itM it ≠ -2 ∧ itO it = -2 := by
        unfold itSo at hs
        by_cases c1 : itO it = -2
        · rw [if_neg (fun q => q c1)] at hs
          by_cases c2 : itL it = -2
          · rw [if_pos c2] at hs; omega
          · rw [if_neg c2] at hs
            by_cases c3 : itM it = -2
            · rw [if_pos c3] at hs; omega
            · exact ⟨c2, c3, c1⟩
        · rw [if_pos c1] at hs; omega
      have eC : itC it = if itE it = -2 then 0 else itE it := if_neg (fun q => q.elim hL.1 hL.2.1)
      have hC : 0 ≤ itC it ∧ itC it < (dnE D : Int) := by
        rw [eC]
        split
        · omega
        · rename_i he; have := q3.resolve_left he; omega
      obtain ⟨z1', z2⟩ := zcod_id hD hlk (q1.resolve_left hL.1) (q2.resolve_left hL.2.1) hC
      rw [z1'] at h
      obtain ⟨u1, u2, u3⟩ := code_un (l := itL it) (show 0 < (dnM D : Int) by omega) (show 0 < (dnE D : Int) by omega) (q2.resolve_left hL.2.1) hC
      rw [h] at u1 u2 u3
      unfold cOf cCd
      rw [hL.2.2]
      have e1 : dCL D x = itL it := u1
      have e2 : dCM D x = itM it := u2
      have e3 : dCE D x = itC it := u3
      rw [e1, e2, e3, eC]
      congr 3
      by_cases he : itE it = -2
      · rw [if_pos he, if_pos rfl, he]
      · rw [if_neg he, if_neg (by have := q3.resolve_left he; omega)]
    · rw [if_neg hs] at h
      have := hx.1
      omega
  · intro h
    unfold cOf cCd at h
    rw [Prod.mk.injEq, Prod.mk.injEq, Prod.mk.injEq] at h
    obtain ⟨h1, h2, h3, h4⟩ := h
    have hs : itSo it = 0 := by
      unfold itSo
      rw [if_neg (fun q => q h4), if_neg (by omega), if_neg (by omega)]
    have eC : itC it = dCE D x := by
      have : itC it = if itE it = -2 then 0 else itE it := if_neg (by omega)
      rw [this, h3]
      by_cases he : dCE D x = 0
      · rw [if_pos he, if_pos rfl, he]
      · rw [if_neg he, if_neg (by omega)]
    rw [if_pos hs, h1, h2, eC, (zcod_id hD hlk r1 r2 r3).1, code_mk hD hlk]
