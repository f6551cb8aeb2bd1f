theorem sm_s {f : Nat → Int} {n : Nat} : sm f (n + 1) = sm f n + f n := rfl
theorem zmv : ∀ v : Nat, v < 132 → zshr (v : Int) 1 = ((v / 2 : Nat) : Int) ∧ zand (v : Int) 1 = ((v % 2 : Nat) : Int) := by decide +kernel
def pA (D : zD) (R : Nat → Nat → Int) (n st k s i : Nat) : Int := if 0 ≤ mvV D st k ∧ mvV D st k < 132 then pAdd R n st ((mvV D st k).toNat / 2) ((mvV D st k).toNat % 2) s i else 0
def pB (D : zD) (B : Nat → Int) (st k s : Nat) : Int := if 0 ≤ mvV D st k ∧ mvV D st k < 132 then pAdB B st ((mvV D st k).toNat / 2) ((mvV D st k).toNat % 2) s else 0
/-- the Tally's cells: rows at r, longer ones at lr; the same of BLOCKS at br, lbr -/
def zTw (L : zY) (m : zM) (D : zD) (r lr br lbr : Nat) : Prop := ((r = 132 ∧ lr = 199) ∨ (r = 199 ∧ lr = 132)) ∧ ((br = 266 ∧ lbr = 267) ∨ (br = 267 ∧ lbr = 266)) ∧ m 64 1 = (r : Int) ∧ m 64 2 = (lr : Int) ∧ m 64 3 = (br : Int) ∧ m 64 4 = (lbr : Int) ∧ m 64 0 = 65 ∧ zTr L m r ∧ zTr L m lr ∧ (zt L br = 21 ∧ zn L br = 66) ∧ (zt L lbr = 21 ∧ zn L lbr = 66) ∧ zt L 64 = 8 ∧ (zt L 65 = 22 ∧ zn L 65 = 66) ∧ (∀ j, j < 66 → m 65 j = ((66 + j : Nat) : Int) ∧ zt L (66 + j) = 20 ∧ zn L (66 + j) = 26) ∧ ∀ st, st < 66 → ∀ j, j < 26 → m (66 + st) j = mvV D st j
theorem zTw_eq {L : zY} {m m' : zM} {D : zD} {r lr br lbr : Nat} (h : ∀ a, a < 133 ∨ a = 199 → a ≠ 132 + 1 → m' a = m a) (hh : zTw L m D r lr br lbr) : zTw L m' D r lr br lbr := by
  obtain ⟨h0, h1, h2, h3, h4, h5, h6, ⟨a1, a2, a3⟩, ⟨b1, b2, b3⟩, h9, h10, h11, h12, h13, h14⟩ := hh
  have e64 := h 64 (by decide) (by decide)
  refine ⟨h0, h1, by rw [e64]; exact h2, by rw [e64]; exact h3, by rw [e64]; exact h4, by rw [e64]; exact h5, by rw [e64]; exact h6, ⟨a1, a2, fun j hj => ?_⟩, ⟨b1, b2, fun j hj => ?_⟩, h9, h10, h11, h12, fun j hj => ?_, fun st hst j hj => ?_⟩
  · rw [h r (by omega) (by omega)]; exact a3 j hj
  · rw [h lr (by omega) (by omega)]; exact b3 j hj
  · rw [h 65 (by decide) (by decide)]; exact h13 j hj
  · rw [h _ (by omega) (by omega)]; exact h14 st hst j hj
theorem c_lenL {L : zY} {m : zM} {Q : zQ} {D : zD} {n r lr br lbr : Nat} {R : Nat → Nat → Int} {B : Nat → Int} (hn : n ≤ 8) (hW : zTw L m D r lr br lbr) (hR : zTab m r R) (hB : ∀ s, s < 66 → m br s = zwl (B s)) (hT : zTab m lr (fun _ _ => 0)) (hBT : ∀ s, s < 66 → m lbr s = zwl 0) (k : ∀ m' l2 l3 l4, zTw L m' D r lr br lbr → zTab m' r R → zTab m' lr (fun s i => sm (fun st => sm (fun k => pA D R n st k s i) 26) 66) → (∀ s, s < 66 → m' lbr s = zwl (sm (fun st => sm (fun k => pB D B st k s) 26) 66)) → (∀ a, (a < lr + 1 ∨ lr + 66 < a) → a ≠ lbr → m' a = m a) → zwp 97 81 [zA 64, zI (n : Nat), zI l2, l3, l4] [] L m' Q) : zwp 97 18 [zA 64, zI (n : Nat), zI ((0 : Nat) : Int), zU, zU] [] L m Q := by
  obtain ⟨w0, w1', -⟩ := id hW
  have t64 := hW.2.2.2.2.2.2.2.2.2.2.2.1
  refine zforv (n := 66) (fun (l : zV × zV) st => [zA 64, zI (n : Nat), zI (st : Nat), l.1, l.2]) (fun st m' => zTab m' lr (fun s i => sm (fun st => sm (fun k => pA D R n st k s i) 26) st) ∧ (∀ s, s < 66 → m' lbr s = zwl (sm (fun st => sm (fun k => pB D B st k s) 26) st)) ∧ ∀ a, (a < lr + 1 ∨ lr + 66 < a) → a ≠ lbr → m' a = m a) ?_ ?_ (zU, zU) 0 m (Nat.zero_le _) ⟨hT, hBT, fun _ _ _ => rfl⟩
  · rintro v st m1 hst ⟨g1, g2, f1⟩ ih
    have n1 : ¬ 66 ≤ (st : Int) := by omega
    have sv : st < 1000000 := by omega
    simp only [s97_18]
    simp only [s97_19, s97_21, s97_24, s97_25, Int.toNat_natCast, true_and, and_true, true_or, or_true, false_or, or_false, zwr_id, zpu_some, zpu_none, reduceIte, Int.reduceLE, Int.reduceLT, Int.reduceEq, Int.reduceNeg, Int.reduceAdd, Int.reduceSub, Int.reduceMul, Int.reduceToNat, Nat.reduceAdd, Nat.reduceLeDiff, Nat.reduceEqDiff, Nat.reduceLT, eq_self, ne_eq, not_false_eq_true, not_true_eq_false, n1]
    refine zforv (n := 26) (fun l j => [zA 64, zI (n : Nat), zI (st : Nat), zI (j : Nat), l]) (fun j m' => zTab m' lr (fun s i => sm (fun st => sm (fun k => pA D R n st k s i) 26) st + sm (fun k => pA D R n st k s i) j) ∧ (∀ s, s < 66 → m' lbr s = zwl (sm (fun st => sm (fun k => pB D B st k s) 26) st + sm (fun k => pB D B st k s) j)) ∧ ∀ a, (a < lr + 1 ∨ lr + 66 < a) → a ≠ lbr → m' a = m a) ?_ ?_ v.2 0 m1 (Nat.zero_le _) ⟨fun s hs i hi => by rw [g1 s hs i hi]; show zwl _ = zwl (_ + 0); rw [Int.add_zero], fun s hs => by rw [g2 s hs]; show zwl _ = zwl (_ + 0); rw [Int.add_zero], f1⟩
    · rintro l j m2 hj ⟨y1, y2, y3⟩ ih2
      have hW2 : zTw L m2 D r lr br lbr := zTw_eq (fun a q1 q2 => y3 a (by omega) (by omega)) hW
      obtain ⟨-, -, c1, c2, c3, c4, c5, hTr, hTl, hb1, hb2, -, ⟨t65, n65⟩, h65, hmv⟩ := id hW2
      obtain ⟨q1, q2, q3⟩ := h65 st hst
      have hmv' := hmv st hst j hj
      have n2 : ¬ 26 ≤ (j : Int) := by omega
      have jv : j < 1000000 := by omega
      have hst66 : 0 ≤ (st : Int) ∧ (st : Int) < ((66 : Nat) : Int) := by omega
      have hj26 : 0 ≤ (j : Int) ∧ (j : Int) < ((26 : Nat) : Int) := by omega
      have hR2 : zTab m2 r R := fun s hs i hi => by rw [y3 _ (by omega) (by omega)]; exact hR s hs i hi
      have hB2 : ∀ s, s < 66 → m2 br s = zwl (B s) := fun s hs => by rw [y3 br (by omega) (by omega)]; exact hB s hs
      have skip : ¬ (0 ≤ mvV D st j ∧ mvV D st j < 132) → zwp 97 69 [zA 64, zI (n : Nat), zI (st : Nat), zI (j : Nat), zI (mvV D st j)] [] L m2 Q := fun hq => by
        simp only [s97_69, s97_72, z1 jv]
        refine ih2 _ m2 ⟨fun s hs i hi => ?_, fun s hs => ?_, y3⟩
        · rw [y1 s hs i hi]
          dsimp only
          rw [sm_s (n := j)]
          have : pA D R n st j s i = 0 := if_neg hq
          rw [this, Int.add_zero]
        · rw [y2 s hs, sm_s (n := j)]
          have : pB D B st j s = 0 := if_neg hq
          rw [this, Int.add_zero]
      simp only [s97_26]
      simp only [s97_27, s97_29, s97_32, s97_33, s97_36, s97_37, s97_38, s97_39, s97_40, s97_42, Int.toNat_natCast, Int.reduceToNat, true_and, and_true, true_or, or_true, zpu_some, zpu_none, reduceIte, and_self, n2, t64, c5, t65, n65, hst66, q1, q2, q3, hj26, hmv']
      simp only [s97_44]
      by_cases d1 : mvV D st j < 0
      · rw [if_pos d1]; exact skip (by omega)
      · rw [if_neg d1]
        simp only [s97_47, s97_49, s97_52]
        by_cases d2 : 132 ≤ mvV D st j
        · rw [if_pos d2]; exact skip (by omega)
        · rw [if_neg d2]
          obtain ⟨u, hu⟩ : ∃ u : Nat, mvV D st j = (u : Int) := ⟨(mvV D st j).toNat, by omega⟩
          obtain ⟨z1', z2'⟩ := zmv u (by omega)
          rw [hu]
          simp only [s97_55, s97_56, s97_57, s97_58, s97_60, s97_61, s97_62, s97_64, s97_65, s97_66, t64, true_and, z1', z2']
          refine c_pass hn hst (by omega) (by omega) t64 w0 w1' c1 c2 c3 c4 hTr hTl hb1 hb2 hR2 y1 hB2 y2 (fun m3 g3 g4 f3 => ?_)
          simp only [s97_69, s97_72, zpu_none, z1 jv]
          refine ih2 _ m3 ⟨fun s hs i hi => ?_, fun s hs => ?_, fun a q4 q5 => by rw [f3 a (by omega) q5]; exact y3 a q4 q5⟩
          · rw [g3 s hs i hi]
            dsimp only
            rw [sm_s (n := j), ← Int.add_assoc]
            have : pA D R n st j s i = pAdd R n st (u / 2) (u % 2) s i := by unfold pA; rw [hu, if_pos (by omega), Int.toNat_natCast]
            rw [this]
          · rw [g4 s hs, sm_s (n := j), ← Int.add_assoc]
            have : pB D B st j s = pAdB B st (u / 2) (u % 2) s := by unfold pB; rw [hu, if_pos (by omega), Int.toNat_natCast]
            rw [this]
    · rintro l m2 ⟨y1, y2, y3⟩
      simp only [s97_26]
      simp only [s97_27, s97_29, s97_75, s97_78, Int.toNat_natCast, true_and, and_true, true_or, or_true, false_or, or_false, zwr_id, zpu_some, zpu_none, reduceIte, Int.reduceLE, Int.reduceLT, Int.reduceEq, Int.reduceNeg, Int.reduceAdd, Int.reduceSub, Int.reduceMul, Int.reduceToNat, Nat.reduceAdd, Nat.reduceLeDiff, Nat.reduceEqDiff, Nat.reduceLT, eq_self, ne_eq, not_false_eq_true, not_true_eq_false, Int.cast_ofNat_Int, z1 sv]
      exact ih (zI ((26 : Nat) : Int), l) m2 ⟨y1, y2, y3⟩
  · rintro v m1 ⟨g1, g2, f1⟩
    simp only [s97_18]
    simp only [s97_19, s97_21, Int.toNat_natCast, true_and, and_true, true_or, or_true, false_or, or_false, zwr_id, zpu_some, zpu_none, reduceIte, Int.reduceLE, Int.reduceLT, Int.reduceEq, Int.reduceNeg, Int.reduceAdd, Int.reduceSub, Int.reduceMul, Int.reduceToNat, Nat.reduceAdd, Nat.reduceLeDiff, Nat.reduceEqDiff, Nat.reduceLT, eq_self, ne_eq, not_false_eq_true, not_true_eq_false, Int.cast_ofNat_Int]
    refine k m1 66 v.1 v.2 (zTw_eq (fun a q1 q2 => f1 a (by omega) (by omega)) hW) (fun s hs i hi => by rw [f1 _ (by omega) (by omega)]; exact hR s hs i hi) g1 g2 f1
