/-! the reference's banks of ITEMS -/
def rBI (m : zM) (b : Nat) (I : List zIt) : Prop := m 349 b = (I.length : Int) ∧ zAL m 350 (200 * b) (I.map itL) ∧ zAL m 351 (200 * b) (I.map itM) ∧ zAL m 352 (200 * b) (I.map itE) ∧ zAL m 353 (200 * b) (I.map itK) ∧ zAL m 354 (200 * b) (I.map itF) ∧ zAL m 355 (200 * b) (I.map itN)
def rBP (m : zM) (b : Nat) (pl : List (Int × Int × Int)) : Prop := zAL m 357 (200 * b) (pl.map (fun q => q.1)) ∧ zAL m 358 (200 * b) (pl.map (fun q => q.2.1)) ∧ zAL m 359 (200 * b) (pl.map (fun q => q.2.2))
theorem rBI_eq {m m' : zM} {b : Nat} {I : List zIt} (h : ∀ a, 349 ≤ a → a ≤ 355 → m' a = m a) (hI : rBI m b I) : rBI m' b I := by
  obtain ⟨h0, h1, h2, h3, h4, h5, h6⟩ := hI
  exact ⟨by rw [h 349 (by decide) (by decide)]; exact h0, zAL_eq (h 350 (by decide) (by decide)) h1, zAL_eq (h 351 (by decide) (by decide)) h2, zAL_eq (h 352 (by decide) (by decide)) h3, zAL_eq (h 353 (by decide) (by decide)) h4, zAL_eq (h 354 (by decide) (by decide)) h5, zAL_eq (h 355 (by decide) (by decide)) h6⟩
theorem rBP_eq {m m' : zM} {b : Nat} {pl : List (Int × Int × Int)} (h : ∀ a, 357 ≤ a → a ≤ 359 → m' a = m a) (hP : rBP m b pl) : rBP m' b pl :=
  ⟨zAL_eq (h 357 (by decide) (by decide)) hP.1, zAL_eq (h 358 (by decide) (by decide)) hP.2.1, zAL_eq (h 359 (by decide) (by decide)) hP.2.2⟩
/-- a write into bank b -/
def rIn (b a k : Nat) : Prop := (a = 332 ∧ (k = 45 ∨ k = 46)) ∨ (a = 349 ∧ k = b) ∨ (a = 356 ∧ k = b) ∨ (350 ≤ a ∧ a ≤ 359 ∧ a ≠ 356 ∧ 200 * b ≤ k ∧ k < 200 * b + 200)
/-- nothing outside bank b has changed -/
def rBf (b : Nat) (m m' : zM) : Prop := ∀ a k, ¬ rIn b a k → m' a k = m a k
theorem rBf_rf {b : Nat} {m : zM} : rBf b m m := fun _ _ _ => rfl
theorem rBf_tr {b : Nat} {m m1 m2 : zM} (h1 : rBf b m m1) (h2 : rBf b m1 m2) : rBf b m m2 := fun a k h => (h2 a k h).trans (h1 a k h)
theorem rBf_up {b : Nat} {m m' : zM} {a k : Nat} {v : Int} (h : rBf b m m') (hi : rIn b a k) : rBf b m (zup m' a k v) := fun a' k' h' => by
  unfold zup
  rw [if_neg (fun q => h' (by rw [q.1, q.2]; exact hi))]
  exact h a' k' h'
theorem rBf_row {b : Nat} {m m' : zM} (h : rBf b m m') {a : Nat} (ha : a ≠ 332) (hb : a < 349 ∨ 359 < a) : m' a = m a := funext (fun k => h a k (by unfold rIn; omega))
theorem rBf_ob {b : Nat} {m m' : zM} (h : rBf b m m') {k : Nat} (hk : k ≠ 45) (hk' : k ≠ 46) : m' 332 k = m 332 k := h 332 k (by unfold rIn; omega)
theorem zMk_n4 {i : Nat} (h : zMk i = true) : i ≠ 45 ∧ i ≠ 46 := by
  constructor
  · rintro rfl; cases h
  · rintro rfl; cases h
theorem zMp_Bf {b : Nat} {m m' : zM} (h : rBf b m m') (hp : zMp m) : zMp m' := zMp_eq (fun i hi => rBf_ob h (zMk_n4 hi).1 (zMk_n4 hi).2) hp
theorem zAL_fo {m m' : zM} {a o : Nat} {xs : List Int} (h : ∀ i, i < xs.length → m' a (o + i) = m a (o + i)) (hx : zAL m a o xs) : zAL m' a o xs := fun i x hi => by
  rw [h i (List.getElem?_eq_some_iff.mp hi).1]
  exact hx i x hi
/-- another bank stands -/
theorem rBI_Bf {b c : Nat} {m m' : zM} {I : List zIt} (hbc : b ≠ c) (hl : I.length ≤ 200) (h : rBf b m m') (hI : rBI m c I) : rBI m' c I := by
  obtain ⟨h0, h1, h2, h3, h4, h5, h6⟩ := hI
  have al : ∀ (a : Nat) (f : zIt → Int), 350 ≤ a → a ≤ 355 → zAL m a (200 * c) (I.map f) → zAL m' a (200 * c) (I.map f) := fun a f q1 q2 hz => zAL_fo (fun i hi => h a _ (by rw [List.length_map] at hi; unfold rIn; omega)) hz
  exact ⟨by rw [h 349 c (by unfold rIn; omega)]; exact h0, al 350 _ (by decide) (by decide) h1, al 351 _ (by decide) (by decide) h2, al 352 _ (by decide) (by decide) h3, al 353 _ (by decide) (by decide) h4, al 354 _ (by decide) (by decide) h5, al 355 _ (by decide) (by decide) h6⟩
theorem rBP_Bf {b c : Nat} {m m' : zM} {pl : List (Int × Int × Int)} (hbc : b ≠ c) (hl : pl.length ≤ 200) (h : rBf b m m') (hP : rBP m c pl) : rBP m' c pl := by
  obtain ⟨h1, h2, h3⟩ := hP
  have al : ∀ (a : Nat) (f : Int × Int × Int → Int), 357 ≤ a → a ≤ 359 → zAL m a (200 * c) (pl.map f) → zAL m' a (200 * c) (pl.map f) := fun a f q1 q2 hz => zAL_fo (fun i hi => h a _ (by rw [List.length_map] at hi; unfold rIn; omega)) hz
  exact ⟨al 357 _ (by decide) (by decide) h1, al 358 _ (by decide) (by decide) h2, al 359 _ (by decide) (by decide) h3⟩
theorem zALo_last {m : zM} {a o : Nat} {xs : List Int} {x y : Int} (h : zAL m a o (xs ++ [x])) : zAL (zup m a (o + xs.length) y) a o (xs ++ [y]) := by
  refine zAL_push ?_
  intro i z hz
  have hi := (List.getElem?_eq_some_iff.mp hz).1
  exact h i z (by rw [List.getElem?_append_left hi]; exact hz)
theorem zALo_mlast {α : Type} {m : zM} {a o : Nat} {cl : List α} {x y : α} {f : α → Int} {v : Int} (h : zAL m a o ((cl ++ [x]).map f)) (hv : f y = v) : zAL (zup m a (o + cl.length) v) a o ((cl ++ [y]).map f) := by
  rw [List.map_append] at h ⊢
  have := zALo_last (y := v) h
  rw [List.length_map] at this
  rw [← hv] at this ⊢
  exact this
theorem zALo_mkeep {α : Type} {m : zM} {a o : Nat} {cl : List α} {x y : α} {f : α → Int} (h : zAL m a o ((cl ++ [x]).map f)) (hv : f y = f x) : zAL m a o ((cl ++ [y]).map f) := by
  rw [List.map_append] at h ⊢
  have e : [y].map f = [x].map f := by rw [List.map_cons, List.map_cons, hv]
  rw [e]; exact h
theorem zALo_mend {α : Type} {m : zM} {a o : Nat} {cl : List α} {x : α} {f : α → Int} (h : zAL m a o ((cl ++ [x]).map f)) : m a (o + cl.length) = f x := by
  refine h cl.length (f x) ?_
  rw [List.getElem?_map, List.getElem?_append_right (Nat.le_refl _), Nat.sub_self]
  rfl
theorem zALo_mpush {α : Type} {m : zM} {a o : Nat} {I : List α} {y : α} {f : α → Int} {v : Int} (h : zAL m a o (I.map f)) (hv : f y = v) : zAL (zup m a (o + I.length) v) a o ((I ++ [y]).map f) := by
  rw [List.map_append]
  have := zAL_push (x := v) h
  rw [List.length_map] at this
  rw [← hv] at this ⊢
  exact this
/-- one field of the latest ITEM is written -/
theorem rBI_set {m : zM} {b a : Nat} {cl : List zIt} {x x' : zIt} {v : Int} (h : rBI m b (cl ++ [x])) (hK : itK x' = itK x) (hF : itF x' = itF x) (ha : (a = 350 ∧ itL x' = v ∧ itM x' = itM x ∧ itE x' = itE x ∧ itN x' = itN x) ∨ (a = 351 ∧ itL x' = itL x ∧ itM x' = v ∧ itE x' = itE x ∧ itN x' = itN x) ∨ (a = 352 ∧ itL x' = itL x ∧ itM x' = itM x ∧ itE x' = v ∧ itN x' = itN x) ∨ (a = 355 ∧ itL x' = itL x ∧ itM x' = itM x ∧ itE x' = itE x ∧ itN x' = v)) : rBI (zup m a (200 * b + cl.length) v) b (cl ++ [x']) := by
  obtain ⟨h0, h1, h2, h3, h4, h5, h6⟩ := h
  have e0 : ((cl ++ [x']).length : Int) = ((cl ++ [x]).length : Int) := by rw [List.length_append, List.length_append]; rfl
  rcases ha with ⟨rfl, q1, q2, q3, q4⟩ | ⟨rfl, q1, q2, q3, q4⟩ | ⟨rfl, q1, q2, q3, q4⟩ | ⟨rfl, q1, q2, q3, q4⟩
  · exact ⟨by rw [zup_na (by decide), e0]; exact h0, zALo_mlast h1 q1, zAL_eq (zup_nf (by decide)) (zALo_mkeep h2 q2), zAL_eq (zup_nf (by decide)) (zALo_mkeep h3 q3), zAL_eq (zup_nf (by decide)) (zALo_mkeep h4 hK), zAL_eq (zup_nf (by decide)) (zALo_mkeep h5 hF), zAL_eq (zup_nf (by decide)) (zALo_mkeep h6 q4)⟩
  · exact ⟨by rw [zup_na (by decide), e0]; exact h0, zAL_eq (zup_nf (by decide)) (zALo_mkeep h1 q1), zALo_mlast h2 q2, zAL_eq (zup_nf (by decide)) (zALo_mkeep h3 q3), zAL_eq (zup_nf (by decide)) (zALo_mkeep h4 hK), zAL_eq (zup_nf (by decide)) (zALo_mkeep h5 hF), zAL_eq (zup_nf (by decide)) (zALo_mkeep h6 q4)⟩
  · exact ⟨by rw [zup_na (by decide), e0]; exact h0, zAL_eq (zup_nf (by decide)) (zALo_mkeep h1 q1), zAL_eq (zup_nf (by decide)) (zALo_mkeep h2 q2), zALo_mlast h3 q3, zAL_eq (zup_nf (by decide)) (zALo_mkeep h4 hK), zAL_eq (zup_nf (by decide)) (zALo_mkeep h5 hF), zAL_eq (zup_nf (by decide)) (zALo_mkeep h6 q4)⟩
  · exact ⟨by rw [zup_na (by decide), e0]; exact h0, zAL_eq (zup_nf (by decide)) (zALo_mkeep h1 q1), zAL_eq (zup_nf (by decide)) (zALo_mkeep h2 q2), zAL_eq (zup_nf (by decide)) (zALo_mkeep h3 q3), zAL_eq (zup_nf (by decide)) (zALo_mkeep h4 hK), zAL_eq (zup_nf (by decide)) (zALo_mkeep h5 hF), zALo_mlast h6 q4⟩
theorem zAL_new {m m2 : zM} {a o : Nat} {I : List zIt} {y : zIt} {f : zIt → Int} (h : zAL m a o (I.map f)) (hk : ∀ j, j ≠ o + I.length → m2 a j = m a j) (hv : m2 a (o + I.length) = f y) : zAL m2 a o ((I ++ [y]).map f) := by
  have h1 := zALo_mpush (y := y) (v := f y) h rfl
  refine zAL_eq (funext (fun j => ?_)) h1
  by_cases q : j = o + I.length
  · rw [q, zup_same]; exact hv
  · rw [zup_nk q]; exact hk j q
/-- what begins() writes -/
def rbeg (m : zM) (b n : Nat) (l mm k f : Int) : zM := zup (zup (zup (zup (zup (zup (zup m 350 (200 * b + n) l) 351 (200 * b + n) mm) 352 (200 * b + n) (-2)) 353 (200 * b + n) k) 354 (200 * b + n) f) 355 (200 * b + n) 0) 349 b ((n + 1 : Nat) : Int)
theorem rbeg_I {m : zM} {b : Nat} {I : List zIt} {l mm k f : Int} (h : rBI m b I) : rBI (rbeg m b I.length l mm k f) b (I ++ [(l, mm, -2, k, f, 0)]) := by
  obtain ⟨h0, h1, h2, h3, h4, h5, h6⟩ := h
  unfold rbeg
  refine ⟨by rw [zup_same, List.length_append]; rfl, ?_, ?_, ?_, ?_, ?_, ?_⟩
  · exact zAL_new h1 (fun j hj => by simp (disch := first | decide | assumption) only [zup_na, zup_nk]) (by simp (disch := decide) only [zup_na, zup_same]; rfl)
  · exact zAL_new h2 (fun j hj => by simp (disch := first | decide | assumption) only [zup_na, zup_nk]) (by simp (disch := decide) only [zup_na, zup_same]; rfl)
  · exact zAL_new h3 (fun j hj => by simp (disch := first | decide | assumption) only [zup_na, zup_nk]) (by simp (disch := decide) only [zup_na, zup_same]; rfl)
  · exact zAL_new h4 (fun j hj => by simp (disch := first | decide | assumption) only [zup_na, zup_nk]) (by simp (disch := decide) only [zup_na, zup_same]; rfl)
  · exact zAL_new h5 (fun j hj => by simp (disch := first | decide | assumption) only [zup_na, zup_nk]) (by simp (disch := decide) only [zup_na, zup_same]; rfl)
  · exact zAL_new h6 (fun j hj => by simp (disch := first | decide | assumption) only [zup_na, zup_nk]) (by simp (disch := decide) only [zup_na, zup_same]; rfl)
theorem rbeg_o {m : zM} {b n : Nat} {l mm k f : Int} {a : Nat} (h : a < 349 ∨ 355 < a) : rbeg m b n l mm k f a = m a := by
  unfold rbeg
  rw [zup_nf (by omega), zup_nf (by omega), zup_nf (by omega), zup_nf (by omega), zup_nf (by omega), zup_nf (by omega), zup_nf (by omega)]
theorem rbeg_f {m : zM} {b n : Nat} {l mm k f : Int} (hn : n < 200) : rBf b m (rbeg m b n l mm k f) := by
  unfold rbeg
  refine rBf_up (rBf_up (rBf_up (rBf_up (rBf_up (rBf_up (rBf_up rBf_rf ?_) ?_) ?_) ?_) ?_) ?_) ?_ <;> (unfold rIn; omega)
/-- what takes() writes -/
def rtak (m : zM) (b p i : Nat) (part : Int) : zM := zup (zup (zup m 357 (200 * b + p) (i : Int)) 358 (200 * b + p) part) 355 (200 * b + i) (m 355 (200 * b + i) + 1)
theorem rtak_o {m : zM} {b p i : Nat} {part : Int} {a : Nat} (h : a ≠ 355 ∧ a ≠ 357 ∧ a ≠ 358) : rtak m b p i part a = m a := by
  unfold rtak
  rw [zup_nf (by omega), zup_nf (by omega), zup_nf (by omega)]
theorem rtak_f {m : zM} {b p i : Nat} {part : Int} (hp : p < 200) (hi : i < 200) : rBf b m (rtak m b p i part) := by
  unfold rtak
  refine rBf_up (rBf_up (rBf_up rBf_rf ?_) ?_) ?_ <;> (unfold rIn; omega)
/-- the latest ITEM takes a KEY -/
theorem rtak_I {m : zM} {b p : Nat} {part : Int} {cl : List zIt} {x : zIt} (h : rBI m b (cl ++ [x])) : rBI (rtak m b p cl.length part) b (cl ++ [(itL x, itM x, itE x, itK x, itF x, itN x + 1)]) := by
  have e : m 355 (200 * b + cl.length) = itN x := zALo_mend h.2.2.2.2.2.2
  unfold rtak
  rw [e]
  exact rBI_set (rBI_eq (m := m) (fun a p q => by rw [zup_nf (by omega), zup_nf (by omega)]) h) rfl rfl (Or.inr (Or.inr (Or.inr ⟨rfl, rfl, rfl, rfl, rfl⟩)))
theorem rtak_P {m : zM} {b i : Nat} {part w : Int} {pl : List (Int × Int × Int)} (h : rBP m b pl) (h9 : m 359 (200 * b + pl.length) = w) : rBP (rtak m b pl.length i part) b (pl ++ [((i : Int), part, w)]) := by
  obtain ⟨h1, h2, h3⟩ := h
  unfold rtak
  refine ⟨zAL_eq (by rw [zup_nf (by decide), zup_nf (by decide)]) (zALo_mpush (y := (((i : Int), part, w) : Int × Int × Int)) h1 rfl), zAL_eq (zup_nf (by decide)) (zALo_mpush (y := (((i : Int), part, w) : Int × Int × Int)) (zAL_eq (zup_nf (by decide)) h2) rfl), ?_⟩
  refine zAL_eq (by rw [zup_nf (by decide), zup_nf (by decide), zup_nf (by decide)]) (m := m) ?_
  intro j z hz
  by_cases hj : j < pl.length
  · rw [List.map_append, List.getElem?_append_left (by rw [List.length_map]; exact hj)] at hz
    exact h3 j z hz
  · have hj2 := (List.getElem?_eq_some_iff.mp hz).1
    rw [List.length_map, List.length_append] at hj2
    have hj3 : j = pl.length := by simp only [List.length_cons, List.length_nil] at hj2; omega
    subst hj3
    rw [List.getElem?_map, List.getElem?_append_right (Nat.le_refl _), Nat.sub_self] at hz
    cases hz
    exact h9
/-- a place is rewritten -/
theorem rtak_Q {m : zM} {b i : Nat} {part : Int} {pl : List (Int × Int × Int)} {q : Int × Int × Int} (h : rBP m b (pl ++ [q])) : rBP (rtak m b pl.length i part) b (pl ++ [((i : Int), part, q.2.2)]) := by
  obtain ⟨h1, h2, h3⟩ := h
  unfold rtak
  exact ⟨zAL_eq (by rw [zup_nf (by decide), zup_nf (by decide)]) (zALo_mlast (y := (((i : Int), part, q.2.2) : Int × Int × Int)) h1 rfl), zAL_eq (zup_nf (by decide)) (zALo_mlast (y := (((i : Int), part, q.2.2) : Int × Int × Int)) (zAL_eq (zup_nf (by decide)) h2) rfl), zAL_eq (by rw [zup_nf (by decide), zup_nf (by decide), zup_nf (by decide)]) (zALo_mkeep (y := (((i : Int), part, q.2.2) : Int × Int × Int)) h3 rfl)⟩
