/-! THE TAPE -/
theorem zand255 {x : Int} : 0 ≤ zand x 255 ∧ zand x 255 < 256 := by
  have h : (Int32.ofInt x &&& Int32.ofInt 255).toBitVec.toNat ≤ 255 := by
    rw [Int32.toBitVec_and, BitVec.toNat_and]
    exact Nat.and_le_right
  have e : zand x 255 = ((Int32.ofInt x &&& Int32.ofInt 255).toBitVec.toNat : Int) := by
    show (Int32.ofInt x &&& Int32.ofInt 255).toBitVec.toInt = _
    rw [BitVec.toInt_eq_toNat_of_lt (by omega)]
  rw [e]
  omega
def zTp (L : zY) (m : zM) (o : Nat) (tape : List Int) : Prop := zt L o = 9 ∧ 2 ≤ o ∧ m o 0 = ((o + 1 : Nat) : Int) ∧ zt L (o + 1) = 20 ∧ zn L (o + 1) = 300 ∧ m o 1 = (tape.length : Int) ∧ tape.length ≤ 300 ∧ zAL m (o + 1) 0 tape ∧ ∀ x ∈ tape, 0 ≤ x ∧ x < 256
theorem zTp_eq {L : zY} {m m' : zM} {o : Nat} {tape : List Int} (h0 : m' o = m o) (h1 : m' (o + 1) = m (o + 1)) (h : zTp L m o tape) : zTp L m' o tape := by
  obtain ⟨a1, a2, a3, a4, a5, a6, a7, a8, a9⟩ := h
  exact ⟨a1, a2, by rw [h0]; exact a3, a4, a5, by rw [h0]; exact a6, a7, zAL_eq h1 a8, a9⟩
theorem c_tstep {L : zY} {m : zM} {Q : zQ} {o : Nat} {tape : List Int} {v sh : Int} (h : zTp L m o tape) (hl : tape.length < 300) (hs : 0 ≤ sh ∧ sh ≤ 24) (k : ∀ m', zTp L m' o (tape ++ [zand (zshr v sh) 255]) → zFR o (o + 1) m m' → zwp 104 3 [zA o, zI v, zI (sh + -8)] [] L m' Q) : zwp 104 3 [zA o, zI v, zI sh] [] L m Q := by
  obtain ⟨a1, a2, a3, a4, a5, a6, a7, a8, a9⟩ := h
  have b6 : ∀ x : Int, zup m (o + 1) tape.length x o 1 = (tape.length : Int) := fun x => by rw [zup_na (by omega)]; exact a6
  simp only [s104_3]
  simp only [s104_0, s104_2, s104_4, s104_7, s104_8, s104_11, s104_14, s104_17, s104_18, s104_21, s104_22, s104_25, s104_26, s104_27, s104_28, s104_31, s104_32, s104_33, s104_34, s104_35, s104_38, s104_39, s104_40, s104_43, s104_46, s104_49, Int.toNat_natCast, true_and, and_true, true_or, or_true, false_or, or_false, zwr_id, zpu_some, zpu_none, reduceIte, Int.reduceLE, Int.reduceLT, Int.reduceEq, Int.reduceNeg, Int.reduceAdd, Int.reduceSub, Int.reduceMul, Int.reduceToNat, Nat.reduceAdd, Nat.reduceLeDiff, Nat.reduceEqDiff, Nat.reduceLT, eq_self, ne_eq, not_false_eq_true, not_true_eq_false, a1, a3, a4, a5, a6, b6, (z1 (i := tape.length) (by omega)), (show zwr (sh + -8) = sh + -8 from zwr_id (by omega) (by omega))]
  rw [if_neg (by omega), if_neg (by omega)]
  refine ⟨by omega, k _ ⟨a1, a2, ?_, a4, a5, ?_, by rw [List.length_append]; exact hl, ?_, ?_⟩ (zFR_up (zFR_up zFR_rf (by omega) (by omega)) (by omega) (by omega))⟩
  · rw [zup_nk (by omega), zup_na (by omega)]; exact a3
  · rw [zup_same, List.length_append]; rfl
  · have := zAL_push (x := zand (zshr v sh) 255) a8
    rw [Nat.zero_add] at this
    exact zAL_eq (zup_nf (by omega)) this
  · intro x hx
    rcases List.mem_append.mp hx with hx | hx
    · exact a9 x hx
    · rw [List.mem_singleton] at hx
      rw [hx]
      exact zand255
/-- the bytes of a number -/
def zby (v : Int) : List Int := [zand (zshr v 24) 255, zand (zshr v 16) 255, zand (zshr v 8) 255, zand (zshr v 0) 255]
theorem c_tapp {L : zY} {m : zM} {Q : zQ} {o : Nat} {tape : List Int} {v : Int} (h : zTp L m o tape) (hl : tape.length + 4 ≤ 300) (k : ∀ m', zTp L m' o (tape ++ zby v) → zFR o (o + 1) m m' → Q none L m') : zwp 104 0 [zA o, zI v, zU] [] L m Q := by
  simp only [s104_0, s104_2]
  refine c_tstep h (by omega) (by omega) (fun m1 g1 f1 => ?_)
  refine c_tstep g1 (by rw [List.length_append]; show tape.length + 1 < 300; omega) (by omega) (fun m2 g2 f2 => ?_)
  refine c_tstep g2 (by rw [List.length_append, List.length_append]; show tape.length + 1 + 1 < 300; omega) (by omega) (fun m3 g3 f3 => ?_)
  refine c_tstep g3 (by rw [List.length_append, List.length_append, List.length_append]; show tape.length + 1 + 1 + 1 < 300; omega) (by omega) (fun m4 g4 f4 => ?_)
  simp only [s104_3, s104_4, s104_49, Int.toNat_natCast, true_and, and_true, true_or, or_true, false_or, or_false, zwr_id, zpu_some, zpu_none, reduceIte, Int.reduceLE, Int.reduceLT, Int.reduceEq, Int.reduceNeg, Int.reduceAdd, Int.reduceSub, Int.reduceMul, Int.reduceToNat, Nat.reduceAdd, Nat.reduceLeDiff, Nat.reduceEqDiff, Nat.reduceLT, eq_self, ne_eq, not_false_eq_true, not_true_eq_false]
  refine k m4 ?_ (zFR_tr f1 (zFR_tr f2 (zFR_tr f3 f4)))
  rw [List.append_assoc, List.append_assoc, List.append_assoc] at g4
  exact g4
theorem x_reach {L : zY} {m : zM} {Q : zQ} {o : Nat} {tape : List Int} {n : Int} (h : zTp L m o tape) : zwp 105 0 [zA o, zI n] [] L m Q ↔ Q (some (zI (if 0 ≤ n ∧ n ≤ tape.length then 1 else 0))) L m := by
  obtain ⟨a1, a2, a3, a4, a5, a6, a7, a8, a9⟩ := h
  simp only [s105_0, s105_1, s105_4, s105_5, s105_6, s105_9, s105_12, s105_13, s105_16, s105_17, Int.toNat_natCast, true_and, and_true, true_or, or_true, false_or, or_false, zwr_id, zpu_some, zpu_none, reduceIte, Int.reduceLE, Int.reduceLT, Int.reduceEq, Int.reduceNeg, Int.reduceAdd, Int.reduceSub, Int.reduceMul, Int.reduceToNat, Nat.reduceAdd, Nat.reduceLeDiff, Nat.reduceEqDiff, Nat.reduceLT, eq_self, ne_eq, not_false_eq_true, not_true_eq_false, a1, a6]
  by_cases h1 : n < 0
  · rw [if_pos h1, if_neg (by omega)]
  · by_cases h2 : n ≤ (tape.length : Int)
    · rw [if_neg h1, if_neg (by omega), if_pos (by omega)]
    · rw [if_neg h1, if_pos (by omega), if_neg (by omega)]
theorem x_byteAt {L : zY} {m : zM} {Q : zQ} {o i : Nat} {tape : List Int} (h : zTp L m o tape) (hi : i < tape.length) : zwp 106 0 [zA o, zI (i : Nat)] [] L m Q ↔ Q (some (zI tape[i])) L m := by
  obtain ⟨a1, a2, a3, a4, a5, a6, a7, a8, a9⟩ := h
  simp only [s106_0, s106_1, s106_4, s106_5, s106_6, s106_9, s106_12, s106_13, s106_16, s106_17, s106_18, s106_21, s106_22, Int.toNat_natCast, true_and, and_true, true_or, or_true, false_or, or_false, zwr_id, zpu_some, zpu_none, reduceIte, Int.reduceLE, Int.reduceLT, Int.reduceEq, Int.reduceNeg, Int.reduceAdd, Int.reduceSub, Int.reduceMul, Int.reduceToNat, Nat.reduceAdd, Nat.reduceLeDiff, Nat.reduceEqDiff, Nat.reduceLT, eq_self, ne_eq, not_false_eq_true, not_true_eq_false, a1, a3, a4, a5, a6, zAL_get0 a8 hi]
  rw [if_neg (by omega), if_neg (by omega)]
  exact ⟨fun h => h.2, fun h => ⟨by omega, h⟩⟩
theorem x_two {L : zY} {m : zM} {Q : zQ} {o i : Nat} {tape : List Int} (h : zTp L m o tape) (hi : i + 1 < tape.length) : zwp 107 0 [zA o, zI (i : Nat)] [] L m Q ↔ Q (some (zI (tape[i] * 256 + tape[i + 1]))) L m := by
  have a9 := h.2.2.2.2.2.2.2.2
  have a7 := h.2.2.2.2.2.2.1
  have b1 := a9 _ (List.getElem_mem (l := tape) (n := i) (by omega))
  have b2 := a9 _ (List.getElem_mem (l := tape) (n := i + 1) (by omega))
  simp only [s107_0, s107_1, s107_2, s107_5, s107_8, s107_9, s107_10, s107_11, s107_12, s107_13, s107_16, s107_17, Int.toNat_natCast, true_and, and_true, true_or, or_true, false_or, or_false, zwr_id, zpu_some, zpu_none, reduceIte, Int.reduceLE, Int.reduceLT, Int.reduceEq, Int.reduceNeg, Int.reduceAdd, Int.reduceSub, Int.reduceMul, Int.reduceToNat, Nat.reduceAdd, Nat.reduceLeDiff, Nat.reduceEqDiff, Nat.reduceLT, eq_self, ne_eq, not_false_eq_true, not_true_eq_false, h.1, x_byteAt h (show i < tape.length by omega), (z1 (i := i) (by omega)), x_byteAt h hi, (show zwr (tape[i] * 256) = tape[i] * 256 from zwr_id (by omega) (by omega)), (show zwr (tape[i] * 256 + tape[i + 1]) = tape[i] * 256 + tape[i + 1] from zwr_id (by omega) (by omega))]
theorem c_tclear {L : zY} {m : zM} {Q : zQ} {o : Nat} {tape : List Int} (h : zTp L m o tape) (k : zTp L (zup m o 1 0) o [] → Q none L (zup m o 1 0)) : zwp 103 0 [zA o] [] L m Q := by
  obtain ⟨a1, a2, a3, a4, a5, a6, a7, a8, a9⟩ := h
  simp (disch := omega) only [s103_0, s103_1, s103_2, s103_5, Int.toNat_natCast, true_and, and_true, true_or, or_true, false_or, or_false, zwr_id, zpu_some, zpu_none, reduceIte, Int.reduceLE, Int.reduceLT, Int.reduceEq, Int.reduceNeg, Int.reduceAdd, Int.reduceSub, Int.reduceMul, Int.reduceToNat, Nat.reduceAdd, Nat.reduceLeDiff, Nat.reduceEqDiff, Nat.reduceLT, eq_self, ne_eq, not_false_eq_true, not_true_eq_false, a1]
  exact k ⟨a1, a2, by rw [zup_nk (by omega)]; exact a3, a4, a5, zup_same, Nat.zero_le _, zAL_nil, fun x hx => by cases hx⟩
/-! THE ROW and THE CARET as they were, the latest first -/
abbrev zHs : Type := List (List Int × Nat)
def zHi (L : zY) (m : zM) (o : Nat) (hist : zHs) : Prop := (zt L o = 1 ∧ 2 ≤ o ∧ m o 0 = ((o + 1 : Nat) : Int) ∧ m o 1 = ((o + 32 : Nat) : Int) ∧ m o 2 = ((o + 33 : Nat) : Int) ∧ zt L (o + 1) = 22 ∧ zn L (o + 1) = 30 ∧ zt L (o + 32) = 20 ∧ zn L (o + 32) = 30 ∧ zt L (o + 33) = 20 ∧ zn L (o + 33) = 30 ∧ ∀ j, j < 30 → m (o + 1) j = ((o + 2 + j : Nat) : Int) ∧ zt L (o + 2 + j) = 20 ∧ zn L (o + 2 + j) = 80) ∧
  ∃ nx : Nat, nx < 30 ∧ m o 3 = (nx : Int) ∧ m o 4 = (hist.length : Int) ∧ hist.length ≤ 30 ∧ ∀ (j : Nat) (q : List Int × Nat), hist[j]? = some q → m (o + 32) ((nx + 29 - j) % 30) = (q.1.length : Int) ∧ m (o + 33) ((nx + 29 - j) % 30) = (q.2 : Int) ∧ q.1.length ≤ 80 ∧ zAL m (o + 2 + (nx + 29 - j) % 30) 0 q.1
theorem zHi_eq {L : zY} {m m' : zM} {o : Nat} {hist : zHs} (h : ∀ a, o ≤ a → a ≤ o + 33 → m' a = m a) (hh : zHi L m o hist) : zHi L m' o hist := by
  obtain ⟨⟨a1, a2, a3, a4, a5, a6, a7, a8, a9, a10, a11, a12⟩, nx, b1, b2, b3, b4, b5⟩ := hh
  refine ⟨⟨a1, a2, ?_, ?_, ?_, a6, a7, a8, a9, a10, a11, fun j hj => ?_⟩, nx, b1, ?_, ?_, b4, fun j q hj => ?_⟩
  · rw [h o (by omega) (by omega)]; exact a3
  · rw [h o (by omega) (by omega)]; exact a4
  · rw [h o (by omega) (by omega)]; exact a5
  · rw [h (o + 1) (by omega) (by omega)]; exact a12 j hj
  · rw [h o (by omega) (by omega)]; exact b2
  · rw [h o (by omega) (by omega)]; exact b3
  · obtain ⟨c1, c2, c3, c4⟩ := b5 j q hj
    exact ⟨by rw [h (o + 32) (by omega) (by omega)]; exact c1, by rw [h (o + 33) (by omega) (by omega)]; exact c2, c3, zAL_eq (h _ (by omega) (by omega)) c4⟩
theorem c_hclear {L : zY} {m : zM} {Q : zQ} {o : Nat} {hist : zHs} (h : zHi L m o hist) (k : ∀ m', zHi L m' o [] → zFR o o m m' → Q none L m') : zwp 1 0 [zA o] [] L m Q := by
  obtain ⟨⟨a1, a2, a3, a4, a5, a6, a7, a8, a9, a10, a11, a12⟩, nx, b1, b2, b3, b4, b5⟩ := h
  simp (disch := omega) only [s1_0, s1_1, s1_2, s1_5, s1_6, s1_7, s1_10, Int.toNat_natCast, true_and, and_true, true_or, or_true, false_or, or_false, zwr_id, zpu_some, zpu_none, reduceIte, Int.reduceLE, Int.reduceLT, Int.reduceEq, Int.reduceNeg, Int.reduceAdd, Int.reduceSub, Int.reduceMul, Int.reduceToNat, Nat.reduceAdd, Nat.reduceLeDiff, Nat.reduceEqDiff, Nat.reduceLT, eq_self, ne_eq, not_false_eq_true, not_true_eq_false, a1]
  refine k _ ⟨⟨a1, a2, ?_, ?_, ?_, a6, a7, a8, a9, a10, a11, fun j hj => ?_⟩, 0, by omega, ?_, ?_, Nat.zero_le _, fun j q hj => (by cases hj)⟩ (zFR_up (zFR_up zFR_rf (by omega) (by omega)) (by omega) (by omega))
  · rw [zup_nk (by omega), zup_nk (by omega)]; exact a3
  · rw [zup_nk (by omega), zup_nk (by omega)]; exact a4
  · rw [zup_nk (by omega), zup_nk (by omega)]; exact a5
  · rw [zup_na (by omega), zup_na (by omega)]; exact a12 j hj
  · rw [zup_nk (by omega), zup_same]; rfl
  · rw [zup_same]; rfl
theorem c_keep {L : zY} {m : zM} {Q : zQ} {o ro c : Nat} {hist : zHs} {row : List Int} {ov : Int} (hH : zHi L m o hist) (hR : zRw L m ro row (c : Int) ov) (hd : ro + 1 < o ∨ o + 33 < ro) (k : ∀ m', zHi L m' o (((row, c) :: hist).take 30) → zFR o (o + 33) m m' → Q none L m') : zwp 2 0 [zA o, zA ro, zU] [] L m Q := by
  obtain ⟨⟨a1, a2, a3, a4, a5, a6, a7, a8, a9, a10, a11, a12⟩, nx, b1, b2, b3, b4, b5⟩ := hH
  obtain ⟨r1, r2, r3, r4, r5, r6, r7, r8, r9, r10⟩ := id hR
  obtain ⟨c1, c2, c3⟩ := a12 nx b1
  simp (disch := omega) only [s2_0, s2_1, s2_4, s2_7, s2_8, s2_11, s2_13, s2_16, s2_17, s2_18, s2_21, s2_22, Int.toNat_natCast, true_and, and_true, true_or, or_true, false_or, or_false, zwr_id, zpu_some, zpu_none, reduceIte, Int.reduceLE, Int.reduceLT, Int.reduceEq, Int.reduceNeg, Int.reduceAdd, Int.reduceSub, Int.reduceMul, Int.reduceToNat, Nat.reduceAdd, Nat.reduceLeDiff, Nat.reduceEqDiff, Nat.reduceLT, eq_self, ne_eq, not_false_eq_true, not_true_eq_false, a1, b2]
  rw [if_neg (by omega), if_pos (by omega)]
  refine zfor (n := row.length) (fun i => [zA o, zA ro, zI (i : Nat)]) (fun i m' => (∀ a, a ≠ o + 2 + nx → m' a = m a) ∧ zAL m' (o + 2 + nx) 0 (row.take i)) ?_ ?_ 0 m (Nat.zero_le _) ⟨fun _ _ => rfl, zAL_nil⟩
  · rintro i m1 hi ⟨g1, g2⟩ ih
    have e1 : m1 ro = m ro := g1 _ (by omega)
    have hp : zRw L m1 ro row (c : Int) ov := zRw_eq e1 (g1 _ (by omega)) hR
    have f6 := hp.2.2.2.2.2.1
    have d2 : m1 o 3 = (nx : Int) := by rw [g1 o (by omega)]; exact b2
    have d3 : m1 o 0 = ((o + 1 : Nat) : Int) := by rw [g1 o (by omega)]; exact a3
    have d4 : m1 (o + 1) nx = ((o + 2 + nx : Nat) : Int) := by rw [g1 (o + 1) (by omega)]; exact c1
    simp only [s2_23]
    simp only [s2_24, s2_25, s2_28, s2_31, s2_32, s2_34, s2_37, s2_38, s2_41, s2_42, s2_45, s2_46, s2_47, s2_48, s2_49, s2_52, s2_53, s2_56, Int.toNat_natCast, true_and, and_true, true_or, or_true, false_or, or_false, zwr_id, zpu_some, zpu_none, reduceIte, Int.reduceLE, Int.reduceLT, Int.reduceEq, Int.reduceNeg, Int.reduceAdd, Int.reduceSub, Int.reduceMul, Int.reduceToNat, Nat.reduceAdd, Nat.reduceLeDiff, Nat.reduceEqDiff, Nat.reduceLT, eq_self, ne_eq, not_false_eq_true, not_true_eq_false, a1, r1, a6, a7, f6, d2, d3, d4, c2, c3, x_signAt hp hi, (z1 (i := i) (by omega))]
    rw [if_neg (by omega), if_neg (by omega)]
    refine ⟨by omega, by omega, ih _ ⟨fun a ha => by rw [zup_nf ha]; exact g1 a ha, ?_⟩⟩
    rw [take_s hi]
    have := zAL_push (x := row[i]) g2
    rw [Nat.zero_add, List.length_take, Nat.min_eq_left (by omega)] at this
    exact this
  · rintro m1 ⟨g1, g2⟩
    rw [List.take_length] at g2
    have e1 : m1 ro = m ro := g1 _ (by omega)
    have f6 : m1 ro 1 = (row.length : Int) := by rw [e1]; exact r6
    have f8 : m1 ro 2 = (c : Int) := by rw [e1]; exact r8
    have d2 : m1 o 3 = (nx : Int) := by rw [g1 o (by omega)]; exact b2
    have d3 : m1 o 1 = ((o + 32 : Nat) : Int) := by rw [g1 o (by omega)]; exact a4
    have d4 : m1 o 2 = ((o + 33 : Nat) : Int) := by rw [g1 o (by omega)]; exact a5
    have d5 : m1 o 4 = (hist.length : Int) := by rw [g1 o (by omega)]; exact b3
    have d6 : m1 o 0 = ((o + 1 : Nat) : Int) := by rw [g1 o (by omega)]; exact a3
    have hn1 : (o + 32 : Nat) ≠ o := by omega
    have fin : ∀ (nx' kp : Nat), nx' = (nx + 1) % 30 → kp = min (hist.length + 1) 30 → Q none L (zup (zup (zup (zup m1 (o + 32) nx (row.length : Int)) (o + 33) nx (c : Int)) o 3 (nx' : Int)) o 4 (kp : Int)) := by
      intro nx' kp e1 e2
      refine k _ ⟨⟨a1, a2, ?_, ?_, ?_, a6, a7, a8, a9, a10, a11, fun j hj => ?_⟩, nx', by omega, ?_, ?_, ?_, fun j q hj => ?_⟩ (zFR_up (zFR_up (zFR_up (zFR_up (m' := m1) (fun a ha => g1 a (by omega)) (by omega) (by omega)) (by omega) (by omega)) (by omega) (by omega)) (by omega) (by omega))
      · rw [zup_nk (by omega), zup_nk (by omega), zup_na (by omega), zup_na (by omega)]; exact d6
      · rw [zup_nk (by omega), zup_nk (by omega), zup_na (by omega), zup_na (by omega)]; exact d3
      · rw [zup_nk (by omega), zup_nk (by omega), zup_na (by omega), zup_na (by omega)]; exact d4
      · rw [zup_na (by omega), zup_na (by omega), zup_na (by omega), zup_na (by omega), g1 _ (by omega)]; exact a12 j hj
      · rw [zup_nk (by omega), zup_same]
      · rw [zup_same, List.length_take, List.length_cons]; omega
      · rw [List.length_take]; omega
      · have hj30 : j < 30 := by
          have := (List.getElem?_eq_some_iff.mp hj).1
          rw [List.length_take] at this; omega
        rw [List.getElem?_take_of_lt hj30] at hj
        cases j with
        | zero =>
          rw [List.getElem?_cons_zero] at hj
          cases hj
          have eq : (nx' + 29 - 0) % 30 = nx := by omega
          rw [eq]
          refine ⟨?_, ?_, r7, ?_⟩
          · rw [zup_na (by omega), zup_na (by omega), zup_na (by omega), zup_same]
          · rw [zup_na (by omega), zup_na (by omega), zup_same]
          · exact zAL_eq (m := m1) (by rw [zup_nf (by omega), zup_nf (by omega), zup_nf (by omega), zup_nf (by omega)]) g2
        | succ j =>
          rw [List.getElem?_cons_succ] at hj
          obtain ⟨y1, y2, y3, y4⟩ := b5 j q hj
          have eq : (nx' + 29 - (j + 1)) % 30 = (nx + 29 - j) % 30 := by omega
          have ne : (nx + 29 - j) % 30 ≠ nx := by omega
          rw [eq]
          refine ⟨?_, ?_, y3, ?_⟩
          · rw [zup_na (by omega), zup_na (by omega), zup_na (by omega), zup_nk ne, g1 _ (by omega)]; exact y1
          · rw [zup_na (by omega), zup_na (by omega), zup_nk ne, zup_na (by omega), g1 _ (by omega)]; exact y2
          · exact zAL_eq (m := m) (by rw [zup_nf (by omega), zup_nf (by omega), zup_nf (by omega), zup_nf (by omega), g1 _ (by omega)]) y4
    simp only [s2_23]
    simp (disch := omega) only [s2_24, s2_25, s2_28, s2_31, s2_32, s2_34, s2_37, s2_38, s2_41, s2_42, s2_45, s2_46, s2_47, s2_48, s2_49, s2_52, s2_53, s2_56, s2_59, s2_60, s2_63, s2_64, s2_67, s2_68, s2_71, s2_72, s2_73, s2_76, s2_77, s2_80, s2_81, s2_84, s2_85, s2_86, s2_87, s2_90, s2_91, s2_92, s2_94, s2_97, s2_98, s2_101, s2_102, s2_103, s2_106, s2_107, s2_110, s2_111, s2_112, s2_115, s2_117, s2_120, s2_121, s2_124, s2_125, s2_126, s2_129, s2_131, s2_134, Int.toNat_natCast, true_and, and_true, true_or, or_true, false_or, or_false, zwr_id, zpu_some, zpu_none, reduceIte, Int.reduceLE, Int.reduceLT, Int.reduceEq, Int.reduceNeg, Int.reduceAdd, Int.reduceSub, Int.reduceMul, Int.reduceToNat, Nat.reduceAdd, Nat.reduceLeDiff, Nat.reduceEqDiff, Nat.reduceLT, eq_self, ne_eq, not_false_eq_true, not_true_eq_false, a1, r1, a8, a9, a10, a11, f6, f8, d2, d3, d4, d5, zup_na, zup_nk]
    rw [if_pos (by omega)]
    refine ⟨by omega, by omega, ?_⟩
    by_cases e1 : nx + 1 < 30
    · rw [if_neg (by omega)]
      by_cases e2 : hist.length < 30
      · rw [if_neg (by omega)]
        exact fin (nx + 1) (hist.length + 1) (by omega) (by omega)
      · rw [if_pos (by omega)]
        exact fin (nx + 1) 30 (by omega) (by omega)
    · rw [if_pos (by omega)]
      by_cases e2 : hist.length < 30
      · rw [if_neg (by omega)]
        exact fin 0 (hist.length + 1) (by omega) (by omega)
      · rw [if_pos (by omega)]
        exact fin 0 30 (by omega) (by omega)
