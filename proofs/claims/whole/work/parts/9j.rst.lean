/-! the reference's state for what the calls are about -/
def rHs (m : zM) (H : zHs) : Prop := m 332 53 = (H.length : Int) ∧ H.length ≤ 30 ∧ ∀ (j : Nat) (q : List Int × Nat), H[j]? = some q → m 365 (H.length - 1 - j) = (q.1.length : Int) ∧ m 366 (H.length - 1 - j) = (q.2 : Int) ∧ q.1.length ≤ 80 ∧ zAL m 364 (80 * (H.length - 1 - j)) q.1
def rB0 (m : zM) (s : zMS) : Prop := rBI m 0 (msI s) ∧ rBP m 0 s.2.2.1 ∧ m 356 0 = s.2.2.2
def gF (g : zG) : Int := g.2.2.2.2.2.1
def gW (g : zG) : Int := g.2.2.2.2.2.2.1
def gU (g : zG) : Int := g.2.2.2.2.2.2.2
def oB (od : Option zD) : Int := match od with
  | some _ => 1
  | none => 0
def rSt (m : zM) (g : zG) : Prop := zMp m ∧ rTp m (gT g) ∧ 0 ≤ (0 : Int) ∧ m 332 6 = oB (gD g) ∧ (m 332 2 = gF g ∧ m 332 3 = gW g ∧ m 332 1 = gU g) ∧ (zAL m 348 0 (gR g) ∧ m 332 32 = ((gR g).length : Int) ∧ m 332 33 = (gC g : Int)) ∧ rHs m (gH g) ∧ ∀ D, gD g = some D → rDt m D ∧ rNm m D ∧ rB0 m (kRun (zPof D) (gR g))
/-- what stands for the state -/
def rKo (k : Nat) : Bool := zMk k || [1, 2, 3, 5, 6, 15, 20, 21, 22, 23, 32, 33, 53].contains k
theorem rKo_p {k : Nat} (h : zMk k = true) : rKo k = true := by unfold rKo; rw [h]; rfl
def rKp (a k : Nat) : Prop := (a = 332 ∧ rKo k = true) ∨ (333 ≤ a ∧ a ≤ 348) ∨ (364 ≤ a ∧ a ≤ 366) ∨ (a = 349 ∧ k = 0) ∨ (a = 356 ∧ k = 0) ∨ (350 ≤ a ∧ a ≤ 359 ∧ a ≠ 356 ∧ k < 200)
theorem rKp_x {k : Nat} (hk : rKo k = false) : ¬ rKp 332 k := fun h => by
  rcases h with h | h | h | h | h | h
  · rw [hk] at h; exact absurd h.2 (by decide)
  · omega
  · omega
  · omega
  · omega
  · omega
def rSf (m m' : zM) : Prop := ∀ a k, rKp a k → m' a k = m a k
theorem rSf_rf {m : zM} : rSf m m := fun _ _ _ => rfl
theorem rSf_tr {m m1 m2 : zM} (h1 : rSf m m1) (h2 : rSf m1 m2) : rSf m m2 := fun a k h => (h2 a k h).trans (h1 a k h)
theorem rSf_up {m m' : zM} {a k : Nat} {v : Int} (h : rSf m m') (hi : ¬ rKp a k) : rSf m (zup m' a k v) := fun a' k' h' => by
  unfold zup
  rw [if_neg (fun q => hi (by rw [← q.1, ← q.2]; exact h'))]
  exact h a' k' h'
theorem rSf_row {m m' : zM} (h : rSf m m') {a : Nat} (ha : (333 ≤ a ∧ a ≤ 348) ∨ (364 ≤ a ∧ a ≤ 366)) : m' a = m a := funext (fun k => h a k (by unfold rKp; omega))
theorem rSf_p {m m' : zM} (h : rSf m m') (hp : zMp m) : zMp m' := zMp_eq (fun i hi => h 332 i (Or.inl ⟨rfl, rKo_p hi⟩)) hp
theorem rBI_0 {m m' : zM} {I : List zIt} (h0 : m' 349 0 = m 349 0) (h : ∀ a k, 350 ≤ a → a ≤ 355 → k < 200 → m' a k = m a k) (hl : I.length ≤ 200) (hI : rBI m 0 I) : rBI m' 0 I := by
  obtain ⟨g0, g1, g2, g3, g4, g5, g6⟩ := hI
  have al : ∀ (a : Nat) (f : zIt → Int), 350 ≤ a → a ≤ 355 → zAL m a (200 * 0) (I.map f) → zAL m' a (200 * 0) (I.map f) := fun a f q1 q2 hz => zAL_fo (fun i hi => h a _ q1 q2 (by rw [List.length_map] at hi; omega)) hz
  exact ⟨by rw [h0]; exact g0, al 350 _ (by decide) (by decide) g1, al 351 _ (by decide) (by decide) g2, al 352 _ (by decide) (by decide) g3, al 353 _ (by decide) (by decide) g4, al 354 _ (by decide) (by decide) g5, al 355 _ (by decide) (by decide) g6⟩
theorem rBP_0 {m m' : zM} {pl : List (Int × Int × Int)} (h : ∀ a k, 357 ≤ a → a ≤ 359 → k < 200 → m' a k = m a k) (hl : pl.length ≤ 200) (hP : rBP m 0 pl) : rBP m' 0 pl := by
  obtain ⟨g1, g2, g3⟩ := hP
  have al : ∀ (a : Nat) (f : Int × Int × Int → Int), 357 ≤ a → a ≤ 359 → zAL m a (200 * 0) (pl.map f) → zAL m' a (200 * 0) (pl.map f) := fun a f q1 q2 hz => zAL_fo (fun i hi => h a _ q1 q2 (by rw [List.length_map] at hi; omega)) hz
  exact ⟨al 357 _ (by decide) (by decide) g1, al 358 _ (by decide) (by decide) g2, al 359 _ (by decide) (by decide) g3⟩
theorem rHs_eq {m m' : zM} {H : zHs} (h0 : m' 332 53 = m 332 53) (h4 : m' 364 = m 364) (h5 : m' 365 = m 365) (h6 : m' 366 = m 366) (h : rHs m H) : rHs m' H := by
  obtain ⟨a1, a2, a3⟩ := h
  refine ⟨by rw [h0]; exact a1, a2, fun j q hq => ?_⟩
  obtain ⟨b1, b2, b3, b4⟩ := a3 j q hq
  exact ⟨by rw [h5]; exact b1, by rw [h6]; exact b2, b3, zAL_eq h4 b4⟩
/-- lengths of what THE MACHINE makes of THE ROW -/
theorem gI_len {D : zD} {R : List Int} (hD : dOk D) (hR : R.length ≤ 198) : (msI (kRun (zPof D) R)).length ≤ R.length ∧ (kRun (zPof D) R).2.2.1.length = R.length := by
  obtain ⟨h1, h2⟩ := kRun_ok (R := R) (dOk_Pk hD)
  have := h1.1.1
  exact ⟨by omega, h2⟩
/-- the same but for fields 1, 2, 3, 5 of the object -/
theorem rSt_g {m m' : zM} {g g' : zG} (hg : gOk g) (e : g'.2.1 = g.2.1 ∧ g'.2.2.1 = g.2.2.1 ∧ g'.2.2.2.1 = g.2.2.2.1 ∧ g'.2.2.2.2.1 = g.2.2.2.2.1) (hs : ∀ a k, rKp a k → (a ≠ 332 ∨ (k ≠ 1 ∧ k ≠ 2 ∧ k ≠ 3 ∧ k ≠ 5)) → (a ≠ 333) → m' a k = m a k) (hT : rTp m' (gT g')) (h2 : m' 332 2 = gF g') (h3 : m' 332 3 = gW g') (h1 : m' 332 1 = gU g') (h : rSt m g) : rSt m' g' := by
  obtain ⟨T, od, R, C, H, f, p, q⟩ := g
  obtain ⟨T', od', R', C', H', f', p', q'⟩ := g'
  obtain ⟨e1, e2, e3, e4⟩ := e
  dsimp only at e1 e2 e3 e4
  subst e1 e2 e3 e4
  obtain ⟨a1, a2, a3, a4, a5, ⟨a6, a7, a8⟩, a9, a10⟩ := h
  have row : ∀ a, ((334 ≤ a ∧ a ≤ 348) ∨ (364 ≤ a ∧ a ≤ 366)) → m' a = m a := fun a ha => funext (fun k => hs a k (by unfold rKp; omega) (by omega) (by omega))
  have ob : ∀ k, rKo k = true → 6 ≤ k → m' 332 k = m 332 k := fun k hk h6 => hs 332 k (Or.inl ⟨rfl, hk⟩) (by omega) (by decide)
  have obn : ∀ k, 20 ≤ k → k ≤ 23 → m' 332 k = m 332 k := fun k h1 h2 => by
    have : k = 20 ∨ k = 21 ∨ k = 22 ∨ k = 23 := by omega
    rcases this with rfl | rfl | rfl | rfl <;> exact ob _ rfl (by decide)
  refine ⟨zMp_eq (fun i hi => hs 332 i (Or.inl ⟨rfl, rKo_p hi⟩) (Or.inr ⟨(fun z => by rw [z] at hi; cases hi), (fun z => by rw [z] at hi; cases hi), (fun z => by rw [z] at hi; cases hi), (fun z => by rw [z] at hi; cases hi)⟩) (by decide)) a1, hT, a3, by rw [ob 6 rfl (by decide)]; exact a4, ⟨h2, h3, h1⟩, ⟨zAL_eq (row 348 (by omega)) a6, by rw [ob 32 rfl (by decide)]; exact a7, by rw [ob 33 rfl (by decide)]; exact a8⟩, rHs_eq (ob 53 rfl (by decide)) (row 364 (by omega)) (row 365 (by omega)) (row 366 (by omega)) a9, fun D hD => ?_⟩
  obtain ⟨b1, b2, b3, b4, b5⟩ := a10 D hD
  obtain ⟨l1, l2⟩ := gI_len (R := R') ((hg.2.1 D hD).1) (by have := hg.2.2.2.1; omega)
  have hR80 : R'.length ≤ 80 := hg.2.2.2.1
  show rDt m' D ∧ rNm m' D ∧ rBI m' 0 (msI (kRun (zPof D) R')) ∧ rBP m' 0 (kRun (zPof D) R').2.2.1 ∧ _
  have b3' : rBI m 0 (msI (kRun (zPof D) R')) := b3
  have b4' : rBP m 0 (kRun (zPof D) R').2.2.1 := b4
  refine ⟨rDt_eq (fun a p q => row a (by omega)) b1, rNm_eq (fun a p q => row a (by omega)) obn b2, rBI_0 (hs 349 0 (by unfold rKp; omega) (by decide) (by decide)) (fun a k p q r => hs a k (by unfold rKp; omega) (by omega) (by omega)) (by omega) b3', rBP_0 (fun a k p q r => hs a k (by unfold rKp; omega) (by omega) (by omega)) (by omega) b4', by rw [hs 356 0 (by unfold rKp; omega) (by decide) (by decide)]; exact b5⟩
theorem rSt_sf {m m' : zM} {g : zG} (hg : gOk g) (h : rSf m m') (hs : rSt m g) : rSt m' g := by
  obtain ⟨a1, ⟨t1, t2, t3, t4⟩, a3, a4, ⟨a5, a6, a7⟩, -⟩ := id hs
  exact rSt_g hg ⟨rfl, rfl, rfl, rfl⟩ (fun a k p _ _ => h a k p) ⟨by rw [h 332 5 (Or.inl ⟨rfl, rfl⟩)]; exact t1, t2, zAL_eq (rSf_row h (by decide)) t3, t4⟩ (by rw [h 332 2 (Or.inl ⟨rfl, rfl⟩)]; exact a5) (by rw [h 332 3 (Or.inl ⟨rfl, rfl⟩)]; exact a6) (by rw [h 332 1 (Or.inl ⟨rfl, rfl⟩)]; exact a7) hs
def ran (m : zM) (why : Int) : zM := zup (zup (zup m 332 0 0) 332 3 (-1)) 332 1 why
theorem ran_o {m : zM} {why : Int} {a : Nat} (h : a ≠ 332) : ran m why a = m a := by unfold ran; rw [zup_nf h, zup_nf h, zup_nf h]
theorem ran_k {m : zM} {why : Int} {k : Nat} (h : k ≠ 0 ∧ k ≠ 1 ∧ k ≠ 3) : ran m why 332 k = m 332 k := by unfold ran; rw [zup_nk h.2.1, zup_nk h.2.2, zup_nk h.1]
theorem rSt_ran {m : zM} {g : zG} {why : Int} (hg : gOk g) (h : rSt m g) : rSt (ran m why) (g.1, g.2.1, g.2.2.1, g.2.2.2.1, g.2.2.2.2.1, g.2.2.2.2.2.1, -1, why) := by
  obtain ⟨a1, ⟨t1, t2, t3, t4⟩, a3, a4, ⟨a5, a6, a7⟩, -⟩ := id h
  refine rSt_g hg ⟨rfl, rfl, rfl, rfl⟩ (fun a k p q r => ?_) ⟨by rw [ran_k (by decide)]; exact t1, t2, zAL_eq (ran_o (by decide)) t3, t4⟩ (by rw [ran_k (by decide)]; exact a5) (by unfold ran; rw [zup_nk (by decide), zup_same]; rfl) (by unfold ran; rw [zup_same]; rfl) h
  by_cases q2 : a = 332
  · subst q2
    refine ran_k ⟨fun z => ?_, by omega, by omega⟩
    subst z
    exact rKp_x rfl p
  · rw [ran_o q2]
theorem zFR_ran {m : zM} {why : Int} : zFR 332 370 m (ran m why) := fun a ha => ran_o (by omega)
/-- isRefused(), as ran -/
theorem r_ref {L : zY} {m : zM} {Q : zQ} {why : Int} (t : zt L 332 = 11) : zwp 163 0 [zA 332, zI why] [] L m Q ↔ Q (some (zI (if why = 0 then 0 else 1))) L (ran m why) := r_refd t
theorem r_unl {L : zY} {m : zM} {Q : zQ} {v : Int} : zwp 164 0 [zI v] [] L m Q ↔ Q (some (zI (if v = 0 then 1 else 0))) L m := by
  simp only [s164_0, s164_1, s164_4, s164_5, s164_8, s164_9]
  by_cases h : v = 0
  · rw [if_pos h, if_pos h]
  · rw [if_neg h, if_neg h]
theorem r_unl2 {L : zY} {m : zM} {Q : zQ} {v w : Int} : zwp 165 0 [zI v, zI w] [] L m Q ↔ Q (some (zI (if v = 0 then 1 else if w = 0 then 2 else 0))) L m := by
  simp only [s165_0, s165_1, s165_4, s165_5, s165_8, s165_9, s165_12, s165_13, s165_16, s165_17]
  by_cases h : v = 0
  · rw [if_pos h, if_pos h]
  · rw [if_neg h, if_neg h]
    by_cases h2 : w = 0
    · rw [if_pos h2, if_pos h2]
    · rw [if_neg h2, if_neg h2]
/-- a write that the state doesn't see -/
theorem rSt_0 {m : zM} {g : zG} {v : Int} (hg : gOk g) (h : rSt m g) : rSt (zup m 332 0 v) g := rSt_sf hg (rSf_up rSf_rf (rKp_x rfl)) h
theorem zFR_1 {m : zM} {k : Nat} {v : Int} : zFR 332 370 m (zup m 332 k v) := zFR_up zFR_rf (by decide) (by decide)
theorem c_rfault {L : zY} {m : zM} {Q : zQ} {g : zG} (ht : zMt L) (hg : gOk g) (h : rSt m g) (k : ∀ m', rSt m' g → zFR 332 370 m m' → Q (some (zI (gF g))) L m') : zwp 183 0 [zA 332] [] L m Q := by
  simp only [s183_0, s183_1, s183_2, s183_5, s183_6, s183_9, mt332 ht, true_and, zup_nk (show (2 : Nat) ≠ 0 by decide), h.2.2.2.2.1.1]
  exact k _ (rSt_0 hg h) zFR_1
theorem c_rwhere {L : zY} {m : zM} {Q : zQ} {g : zG} (ht : zMt L) (hg : gOk g) (hw : gU g ≠ 4 → gW g = -1) (h : rSt m g) (k : ∀ m', rSt m' g → zFR 332 370 m m' → Q (some (zI (gW g))) L m') : zwp 184 0 [zA 332] [] L m Q := by
  simp only [s184_0, s184_1, s184_2, s184_5, s184_6, s184_9, mt332 ht, true_and, zup_nk (show (1 : Nat) ≠ 0 by decide), h.2.2.2.2.1.2.2]
  simp only [s184_10]
  by_cases q : gU g = 4
  · rw [if_pos q]
    simp only [s184_13, s184_14, s184_17, s184_21, mt332 ht, true_and, zup_nk (show (3 : Nat) ≠ 0 by decide), h.2.2.2.2.1.2.1]
    exact k _ (rSt_0 hg h) zFR_1
  · rw [if_neg q]
    simp only [s184_20, s184_21]
    rw [hw q] at k
    exact k _ (rSt_0 hg h) zFR_1
theorem c_rsize {L : zY} {m : zM} {Q : zQ} {g : zG} (ht : zMt L) (hg : gOk g) (h : rSt m g) (k : ∀ m', rSt m' g → zFR 332 370 m m' → Q (some (zI ((gT g).length : Int))) L m') : zwp 256 0 [zA 332] [] L m Q := by
  simp only [s256_0, s256_1, s256_2, s256_5, s256_6, s256_9, mt332 ht, true_and, zup_nk (show (5 : Nat) ≠ 0 by decide), h.2.1.1]
  exact k _ (rSt_0 hg h) zFR_1
theorem c_rtrouble {L : zY} {m : zM} {Q : zQ} {g : zG} (ht : zMt L) (hg : gOk g) (h : rSt m g) (k : ∀ m', rSt m' g → zFR 332 370 m m' → Q (some (zI (gU g))) L m') : zwp 257 0 [zA 332] [] L m Q := by
  simp only [s257_0, s257_1, s257_2, s257_5, s257_6, s257_9, mt332 ht, true_and, zup_nk (show (1 : Nat) ≠ 0 by decide), h.2.2.2.2.1.2.2]
  exact k _ (rSt_0 hg h) zFR_1
theorem c_rfeed {L : zY} {m : zM} {Q : zQ} {g : zG} {a b c d e : Int} (ht : zMt L) (hn : zMn L) (hg : gOk g) (h : rSt m g) (k : ∀ m', rSt m' (sFeed g a b c d e).2 → zFR 332 370 m m' → Q (some (zI (sFeed g a b c d e).1)) L m') : zwp 166 0 [zA 332, zI a, zI b, zI c, zI d, zI e] [] L m Q := by
  have t0 := mt332 ht
  have h0 := rSt_0 (v := 0) hg h
  have e5 : zup m 332 0 0 332 5 = ((gT g).length : Int) := by rw [zup_nk (by decide)]; exact h.2.1.1
  have f0 : zFR 332 370 m (zup m 332 0 0) := zFR_1
  simp only [s166_0, s166_1, s166_2, s166_5, s166_6, s166_9, t0, true_and, e5]
  generalize zup m 332 0 0 = m0 at *
  unfold sFeed at k
  simp only [s166_12]
  by_cases hl : 280 < (gT g).length
  · rw [if_neg (by omega)]
    rw [if_pos hl] at k
    simp only [s166_15, s166_16]
    exact k _ h0 f0
  · rw [if_pos (by omega)]
    rw [if_neg hl] at k
    have len : ∀ v, (zby v).length = 4 := fun _ => rfl
    simp only [s166_17, s166_18, s166_19, t0, true_and]
    refine c_rlays ht hn h0.1 h0.2.1 (by omega) (fun m1 p1 g1 f1 k1 => ?_)
    simp only [s166_22, s166_23, s166_24, zpu_none, t0, true_and]
    refine c_rlays ht hn p1 g1 (by rw [List.length_append, len]; omega) (fun m2 p2 g2 f2 k2 => ?_)
    simp only [s166_27, s166_28, s166_29, zpu_none, t0, true_and]
    refine c_rlays ht hn p2 g2 (by simp only [List.length_append, len]; omega) (fun m3 p3 g3 f3 k3 => ?_)
    simp only [s166_32, s166_33, s166_35, zpu_none, t0, true_and]
    refine c_rlays ht hn p3 g3 (by simp only [List.length_append, len]; omega) (fun m4 p4 g4 f4 k4 => ?_)
    simp only [s166_38, s166_39, s166_41, zpu_none, t0, true_and]
    refine c_rlays ht hn p4 g4 (by simp only [List.length_append, len]; omega) (fun m5 p5 g5 f5 k5 => ?_)
    have e6 : m5 332 5 = (((gT g).length + 20 : Nat) : Int) := by rw [g5.1]; simp only [List.length_append, len]
    simp only [s166_44, s166_45, s166_48, zpu_none, t0, true_and, e6]
    have ob : ∀ i, i ≠ 5 → m5 332 i = m0 332 i := fun i hi => by rw [k5 i hi, k4 i hi, k3 i hi, k2 i hi, k1 i hi]
    have row : ∀ x, x ≠ 332 → x ≠ 333 → m5 x = m0 x := fun x q1 q2 => by rw [f5 x q1 q2, f4 x q1 q2, f3 x q1 q2, f2 x q1 q2, f1 x q1 q2]
    refine k m5 (rSt_g hg ⟨rfl, rfl, rfl, rfl⟩ (fun x j p q r => ?_) g5 (by rw [ob 2 (by decide)]; exact h0.2.2.2.2.1.1) (by rw [ob 3 (by decide)]; exact h0.2.2.2.2.1.2.1) (by rw [ob 1 (by decide)]; exact h0.2.2.2.2.1.2.2) h0) (fun x hx => by rw [row x (by omega) (by omega)]; exact f0 x hx)
    by_cases q2 : x = 332
    · subst q2; exact ob j (by omega)
    · rw [row x q2 r]
