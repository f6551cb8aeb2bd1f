/-- the reference's tape -/
def rTp (m : zM) (T : List Int) : Prop := m 332 5 = (T.length : Int) ∧ T.length ≤ 300 ∧ zAL m 333 0 T ∧ ∀ x ∈ T, 0 ≤ x ∧ x < 256
theorem zby_get {v : Int} {i : Nat} (hi : i < (zby v).length) : (zby v)[i] = zand (zshr v (24 - 8 * (i : Int))) 255 := by
  have : i = 0 ∨ i = 1 ∨ i = 2 ∨ i = 3 := by have : (zby v).length = 4 := rfl; omega
  rcases this with rfl | rfl | rfl | rfl <;> rfl
theorem zby_rng {v x : Int} (h : x ∈ zby v) : 0 ≤ x ∧ x < 256 := by
  unfold zby at h
  simp only [List.mem_cons, List.not_mem_nil, or_false] at h
  rcases h with rfl | rfl | rfl | rfl <;> exact zand255
theorem c_rlays {L : zY} {m : zM} {Q : zQ} {T : List Int} {v : Int} (ht : zMt L) (hn : zMn L) (hp : zMp m) (hT : rTp m T) (hl : T.length + 4 ≤ 300) (k : ∀ m', zMp m' → rTp m' (T ++ zby v) → (∀ a, a ≠ 332 → a ≠ 333 → m' a = m a) → (∀ i, i ≠ 5 → m' 332 i = m 332 i) → Q none L m') : zwp 167 0 [zA 332, zI v, zU] [] L m Q := by
  obtain ⟨p5, h300, hA, hb⟩ := hT
  have t0 := mt332 ht
  have t3 := mt333 ht
  have n3 := mn333 hn
  have q4 := mp4 hp
  have l4 : (zby v).length = 4 := rfl
  simp only [s167_0, s167_1]
  refine zfor (n := 4) (fun i => [zA 332, zI v, zI (i : Nat)]) (fun i m' => zAL m' 333 0 (T ++ (zby v).take i) ∧ ∀ a, a ≠ 333 → m' a = m a) ?_ ?_ 0 m (Nat.zero_le _) ⟨by rw [List.take_zero, List.append_nil]; exact hA, fun _ _ => rfl⟩
  · rintro i m1 hi ⟨g1, f1⟩ ih
    have n1 : ¬ 4 ≤ (i : Int) := by omega
    have iv : i < 1000000 := by omega
    have c4 : m1 332 4 = ((333 : Nat) : Int) := by rw [f1 332 (by decide)]; exact q4
    have c5 : m1 332 5 = (T.length : Int) := by rw [f1 332 (by decide)]; exact p5
    have hr : 0 ≤ ((T.length + i : Nat) : Int) ∧ ((T.length + i : Nat) : Int) < ((300 : Nat) : Int) := by omega
    have hi4 : i < (zby v).length := by rw [l4]; exact hi
    have hz := zby_get (v := v) hi4
    have hts := take_s hi4
    simp only [s167_2]
    simp only [s167_3, s167_4, s167_7, s167_8, s167_11, s167_12, s167_15, s167_16, s167_17, s167_18, s167_20, s167_22, s167_23, s167_24, s167_25, s167_26, s167_29, s167_30, s167_31, s167_34, Int.toNat_natCast, true_and, and_true, true_or, or_true, zpu_some, zpu_none, reduceIte, Nat.reduceLeDiff, and_self, n1, t0, t3, n3, c4, c5, (show zwr ((T.length : Int) + (i : Int)) = ((T.length + i : Nat) : Int) by rw [zwr_id (by omega) (by omega)]; omega), (show zwr (8 * (i : Int)) = 8 * (i : Int) from zwr_id (by omega) (by omega)), (show zwr (24 - 8 * (i : Int)) = 24 - 8 * (i : Int) from zwr_id (by omega) (by omega)), hr, z1 iv]
    refine ih _ ⟨?_, fun a ha => by rw [zup_nf ha]; exact f1 a ha⟩
    have := zAL_push (x := zand (zshr v (24 - 8 * (i : Int))) 255) g1
    rw [Nat.zero_add, List.length_append, List.length_take, l4, Nat.min_eq_left (by omega), List.append_assoc, ← hz, ← hts] at this
    rw [← hz]
    exact this
  · rintro m1 ⟨g1, f1⟩
    rw [List.take_of_length_le (by rw [l4]; exact Nat.le_refl _)] at g1
    have c5 : m1 332 5 = (T.length : Int) := by rw [f1 332 (by decide)]; exact p5
    simp only [s167_2]
    simp only [s167_3, s167_4, s167_37, s167_38, s167_39, s167_42, s167_43, s167_44, s167_47, Int.toNat_natCast, true_and, and_true, true_or, or_true, false_or, or_false, zwr_id, zpu_some, zpu_none, reduceIte, Int.reduceLE, Int.reduceLT, Int.reduceEq, Int.reduceNeg, Int.reduceAdd, Int.reduceSub, Int.reduceMul, Int.reduceToNat, Nat.reduceAdd, Nat.reduceLeDiff, Nat.reduceEqDiff, Nat.reduceLT, eq_self, ne_eq, not_false_eq_true, not_true_eq_false, Int.cast_ofNat_Int, t0, c5, (show zwr ((T.length : Int) + 4) = ((T.length + 4 : Nat) : Int) by rw [zwr_id (by omega) (by omega)]; omega)]
    refine k _ (zMp_eq (m := m) (fun i hi => ?_) hp) ⟨?_, by rw [List.length_append, l4]; exact hl, zAL_eq (zup_nf (by decide)) g1, fun x hx => ?_⟩ (fun a y1 y2 => by rw [zup_nf y1]; exact f1 a y2) (fun i hi => by rw [zup_nk hi, f1 332 (by decide)])
    · rw [zup_nk (fun e => by rw [e] at hi; cases hi), f1 332 (by decide)]
    · rw [zup_same, List.length_append, l4]
    · rcases List.mem_append.mp hx with hx | hx
      · exact hb x hx
      · exact zby_rng hx
