/-! ranks -/
theorem cnB_mono {p q : Nat → Bool} : ∀ n, (∀ j, j < n → p j = true → q j = true) → cnB p n ≤ cnB q n := by
  intro n
  induction n with
  | zero => intro _; exact Nat.le_refl _
  | succ n ih =>
    intro h
    have h1 := ih (fun j hj => h j (by omega))
    rw [cnB, cnB]
    by_cases e : p n = true
    · rw [if_pos e, if_pos (h n (by omega) e)]; omega
    · rw [if_neg e]; omega
theorem cnB_lt {p q : Nat → Bool} {i : Nat} : ∀ n, i < n → (∀ j, j < n → p j = true → q j = true) → p i = false → q i = true → cnB p n < cnB q n := by
  intro n
  induction n with
  | zero => intro h; omega
  | succ n ih =>
    intro hi h h1 h2
    rw [cnB, cnB]
    by_cases e : i = n
    · subst e
      have := cnB_mono i (fun j hj => h j (by omega))
      rw [if_neg (by rw [h1]; exact Bool.noConfusion), if_pos h2]; omega
    · have := ih (by omega) (fun j hj => h j (by omega)) h1 h2
      by_cases e2 : p n = true
      · rw [if_pos e2, if_pos (h n (by omega) e2)]; omega
      · rw [if_neg e2]; omega
theorem cnB_cg {p q : Nat → Bool} {n : Nat} (h : ∀ j, j < n → p j = q j) : cnB p n = cnB q n :=
  Nat.le_antisymm (cnB_mono n (fun j hj e => by rw [← h j hj]; exact e)) (cnB_mono n (fun j hj e => by rw [h j hj]; exact e))
theorem rkP_iff {o : Nat → Int} {k j : Nat} : rkP o k j = true ↔ (o j < o k ∨ (o j = o k ∧ j < k)) := by
  unfold rkP
  rw [Bool.or_eq_true, Bool.and_eq_true, decide_eq_true_iff, decide_eq_true_iff, decide_eq_true_iff]
theorem rkP_no {o : Nat → Int} {k j : Nat} : rkP o k j = false ↔ ¬ (o j < o k ∨ (o j = o k ∧ j < k)) := by
  rw [← rkP_iff]
  exact Bool.eq_false_iff
/-- each rank is somebody's -/
theorem rk_all {o : Nat → Int} : ∀ n i, i < n → ∃ k, k < n ∧ rkA o n k = i := by
  intro n
  induction n with
  | zero => intro i h; omega
  | succ n ih =>
    intro i hi
    have up : ∀ k, rkA o (n + 1) k = rkA o n k + if rkP o k n = true then 1 else 0 := fun k => rfl
    have lo : ∀ k, k < n → rkP o n k = true → rkA o n k < rkA o n n := fun k hk h => by
      refine cnB_lt (i := k) n hk (fun j hj e => ?_) (rkP_no.mpr (by omega)) h
      rw [rkP_iff] at h e ⊢
      omega
    have hi' : ∀ k, k < n → rkP o k n = true → rkA o n n ≤ rkA o n k := fun k hk h => by
      refine cnB_mono n (fun j hj e => ?_)
      rw [rkP_iff] at h e ⊢
      omega
    have tri : ∀ k, k < n → rkP o n k = true ∨ rkP o k n = true := fun k hk => by
      rw [rkP_iff, rkP_iff]
      omega
    have nn : rkP o n n = false := rkP_no.mpr (by omega)
    by_cases h1 : i < rkA o n n
    · have hle := cnB_le (p := rkP o n) n
      have hle : rkA o n n ≤ n := hle
      obtain ⟨k, hk, e⟩ := ih i (by omega)
      refine ⟨k, by omega, ?_⟩
      rw [up]
      have : ¬ rkP o k n = true := fun q => by have := hi' k hk q; omega
      rw [if_neg this]
      omega
    · by_cases h2 : i = rkA o n n
      · refine ⟨n, by omega, ?_⟩
        rw [up, if_neg (by rw [nn]; exact Bool.noConfusion)]
        omega
      · obtain ⟨k, hk, e⟩ := ih (i - 1) (by omega)
        refine ⟨k, by omega, ?_⟩
        have : rkP o k n = true := (tri k hk).resolve_left (fun q => by have := lo k hk q; omega)
        rw [up, if_pos this]
        omega
def rnk (D : zD) (x : zIt) : Int := 100000 * itSo x + if itSo x = 0 then zcod D (itL x) (itM x) (itC x) else if itSo x = 1 then itL x else if itSo x = 2 then itM x else itK x
theorem ord_val {D : zD} {x : zIt} (hD : dOk D) (hlk : dLacks D = false) (h : itR D x) : (itSo x = 0 ∧ ∃ v : Int, 0 ≤ v ∧ v < 60000 ∧ ordC D x = v ∧ rnk D x = v) ∨ (itSo x = 1 ∧ ∃ v : Int, 0 ≤ v ∧ v < 60000 ∧ ordC D x = 65536 + v ∧ rnk D x = 100000 + v) ∨ (itSo x = 2 ∧ ∃ v : Int, 0 ≤ v ∧ v < 60000 ∧ ordC D x = 131072 + v ∧ rnk D x = 200000 + v) ∨ (itSo x = 3 ∧ ∃ v : Int, 0 ≤ v ∧ v < 60000 ∧ ordC D x = 196608 + 97 + v ∧ rnk D x = 300000 + v) := by
  obtain ⟨h1, h2, h3, h4, h5⟩ := h
  obtain ⟨l1, l2, l3⟩ := dOk_n hD hlk
  obtain ⟨a1, a2, a3, a4⟩ := dN_all hD hlk
  have s0 := itSo_0 (x := x)
  unfold ordC rnk
  by_cases e0 : itSo x = 0
  · left
    obtain ⟨y1, y2⟩ := s0.mp e0
    have hC : 0 ≤ itC x ∧ itC x < (dnE D : Int) := by
      unfold itC
      rw [if_neg (fun q => q.elim y1 y2)]
      split <;> omega
    obtain ⟨z1, z2⟩ := zcod_id hD hlk (show 0 ≤ itL x ∧ itL x < (dnL D : Int) by omega) (show 0 ≤ itM x ∧ itM x < (dnM D : Int) by omega) hC
    unfold dHas at z2
    rw [if_pos e0, if_pos e0, e0, z1]
    exact ⟨rfl, _, z2.1, by omega, rfl, by omega⟩
  · right
    have so : itSo x = 3 ↔ (itL x = -2 ∧ itM x = -2) := by
      rw [← rSo_so h4]
      unfold rSo
      constructor
      · intro q
        split at q
        · split at q <;> exact absurd q (by decide)
        · split at q
          · exact absurd q (by decide)
          · rename_i u v; exact ⟨Classical.not_not.mp u, Classical.not_not.mp v⟩
      · rintro ⟨q1, q2⟩
        rw [if_neg (fun u => u q1), if_neg (fun u => u q2)]
    have s1 : itSo x = 1 → itL x ≠ -2 := fun q => by
      rw [← rSo_so h4] at q
      unfold rSo at q
      split at q
      · assumption
      · split at q <;> exact absurd q (by decide)
    have s2 : itSo x = 2 → itM x ≠ -2 := fun q => by
      rw [← rSo_so h4] at q
      unfold rSo at q
      split at q
      · split at q <;> exact absurd q (by decide)
      · split at q
        · assumption
        · exact absurd q (by decide)
    rcases itSo_rng (x := x) with e | e | e | e
    · exact absurd e e0
    · left
      have := s1 e
      rw [if_neg e0, if_pos e, if_neg e0, if_pos e, e]
      exact ⟨rfl, itL x, by omega, by omega, rfl, by omega⟩
    · right; left
      have := s2 e
      rw [if_neg e0, if_neg (by omega), if_pos e, if_neg e0, if_neg (by omega), if_pos e, e]
      exact ⟨rfl, itM x, by omega, by omega, rfl, by omega⟩
    · right; right
      have eO : itO x = itK x + 97 := if_pos (so.mp e)
      rw [if_neg e0, if_neg (by omega), if_neg (by omega), if_neg e0, if_neg (by omega), if_neg (by omega), e, eO]
      exact ⟨rfl, itK x, by omega, by omega, by omega, by omega⟩
theorem ord_cmp {D : zD} {x y : zIt} (hD : dOk D) (hlk : dLacks D = false) (hx : itR D x) (hy : itR D y) : (ordC D x < ordC D y ↔ rnk D x < rnk D y) ∧ (ordC D x = ordC D y ↔ rnk D x = rnk D y) := by
  rcases ord_val hD hlk hx with ⟨-, v, a1, a2, a3, a4⟩ | ⟨-, v, a1, a2, a3, a4⟩ | ⟨-, v, a1, a2, a3, a4⟩ | ⟨-, v, a1, a2, a3, a4⟩ <;>
    rcases ord_val hD hlk hy with ⟨-, w, b1, b2, b3, b4⟩ | ⟨-, w, b1, b2, b3, b4⟩ | ⟨-, w, b1, b2, b3, b4⟩ | ⟨-, w, b1, b2, b3, b4⟩ <;>
    (rw [a3, a4, b3, b4]; omega)
theorem r_rank {L : zY} {m : zM} {Q : zQ} {i : Nat} {x : zIt} {D : zD} (ht : zMt L) (hn : zMn L) (hD : dOk D) (hlk : dLacks D = false) (hp : zMp m) (hN : rNm m D) (hi : i < 200) (hR : itR D x) (hx : rIt m i x) : zwp 242 0 [zA 332, zI (i : Int), zU] [] L m Q ↔ Q (some (zI (rnk D x))) L m := by
  have t0 := mt332 ht
  have hK := hR.2.2.2.1
  have q35 : m 332 35 = ((350 : Nat) : Int) := mp35 hp
  have q36 : m 332 36 = ((351 : Nat) : Int) := mp36 hp
  have q38 : m 332 38 = ((353 : Nat) : Int) := mp38 hp
  have hr : 0 ≤ (i : Int) ∧ (i : Int) < ((600 : Nat) : Int) := by omega
  have so := fun Q' : zQ => r_sort0 (Q := Q') ht hn hp hi hK hx
  have co := fun Q' : zQ => r_codeTold (Q := Q') ht hn hp hN hi hK hx
  obtain ⟨v1, v2, v3, v4, v5, v6⟩ := hx
  have ov := ord_val hD hlk hR
  have er : rnk D x = 100000 * itSo x + if itSo x = 0 then zcod D (itL x) (itM x) (itC x) else if itSo x = 1 then itL x else if itSo x = 2 then itM x else itK x := rfl
  rcases itSo_rng (x := x) with e | e | e | e
  · rw [e, if_pos rfl] at er
    rw [if_pos e] at co
    simp only [s242_0, s242_1, s242_2, s242_3, s242_6, s242_7, s242_10, s242_11, s242_12, s242_13, s242_16, s242_17, s242_18, s242_21, s242_58, s242_59, Int.toNat_natCast, true_and, and_true, true_or, or_true, false_or, or_false, zwr_id, zpu_some, zpu_none, reduceIte, Int.reduceLE, Int.reduceLT, Int.reduceEq, Int.reduceNeg, Int.reduceAdd, Int.reduceSub, Int.reduceMul, Int.reduceToNat, Nat.reduceAdd, Nat.reduceLeDiff, Nat.reduceEqDiff, Nat.reduceLT, eq_self, ne_eq, not_false_eq_true, not_true_eq_false, t0, so, e, co, (show zwr (100000 * 0) = 0 from zwr_id (by decide) (by decide)), (show zwr (0 + zcod D (itL x) (itM x) (itC x)) = rnk D x by rw [er]; exact zwr_id (by omega) (by omega))]
  · rw [e, if_neg (by decide), if_pos rfl] at er
    simp only [s242_0, s242_1, s242_2, s242_3, s242_6, s242_7, s242_10, s242_11, s242_12, s242_13, s242_24, s242_25, s242_26, s242_29, s242_30, s242_33, s242_34, s242_35, s242_58, s242_59, Int.toNat_natCast, true_and, and_true, true_or, or_true, false_or, or_false, zwr_id, zpu_some, zpu_none, reduceIte, Int.reduceLE, Int.reduceLT, Int.reduceEq, Int.reduceNeg, Int.reduceAdd, Int.reduceSub, Int.reduceMul, Int.reduceToNat, Nat.reduceAdd, Nat.reduceLeDiff, Nat.reduceEqDiff, Nat.reduceLT, eq_self, ne_eq, not_false_eq_true, not_true_eq_false, t0, so, e, q35, mt350 ht, mn350 hn, hr, and_self, v1, (show zwr (100000 * 1) = 100000 from zwr_id (by decide) (by decide)), (show zwr (100000 + itL x) = rnk D x by rw [er]; exact zwr_id (by omega) (by omega))]
  · rw [e, if_neg (by decide), if_neg (by decide), if_pos rfl] at er
    simp only [s242_0, s242_1, s242_2, s242_3, s242_6, s242_7, s242_10, s242_11, s242_12, s242_13, s242_24, s242_25, s242_26, s242_38, s242_39, s242_40, s242_43, s242_44, s242_47, s242_48, s242_49, s242_58, s242_59, Int.toNat_natCast, true_and, and_true, true_or, or_true, false_or, or_false, zwr_id, zpu_some, zpu_none, reduceIte, Int.reduceLE, Int.reduceLT, Int.reduceEq, Int.reduceNeg, Int.reduceAdd, Int.reduceSub, Int.reduceMul, Int.reduceToNat, Nat.reduceAdd, Nat.reduceLeDiff, Nat.reduceEqDiff, Nat.reduceLT, eq_self, ne_eq, not_false_eq_true, not_true_eq_false, t0, so, e, q36, mt351 ht, mn351 hn, hr, and_self, v2, (show zwr (100000 * 2) = 200000 from zwr_id (by decide) (by decide)), (show zwr (200000 + itM x) = rnk D x by rw [er]; exact zwr_id (by omega) (by omega))]
  · rw [e, if_neg (by decide), if_neg (by decide), if_neg (by decide)] at er
    simp only [s242_0, s242_1, s242_2, s242_3, s242_6, s242_7, s242_10, s242_11, s242_12, s242_13, s242_24, s242_25, s242_26, s242_38, s242_39, s242_40, s242_52, s242_53, s242_56, s242_57, s242_58, s242_59, Int.toNat_natCast, true_and, and_true, true_or, or_true, false_or, or_false, zwr_id, zpu_some, zpu_none, reduceIte, Int.reduceLE, Int.reduceLT, Int.reduceEq, Int.reduceNeg, Int.reduceAdd, Int.reduceSub, Int.reduceMul, Int.reduceToNat, Nat.reduceAdd, Nat.reduceLeDiff, Nat.reduceEqDiff, Nat.reduceLT, eq_self, ne_eq, not_false_eq_true, not_true_eq_false, t0, so, e, q38, mt353 ht, mn353 hn, hr, and_self, v4, (show zwr (100000 * 3) = 300000 from zwr_id (by decide) (by decide)), (show zwr (300000 + itK x) = rnk D x by rw [er]; exact zwr_id (by omega) (by omega))]
