section ZW1
theorem zev_succ : ∀ (n mi pc : Nat) (ls st : List zV) (L : zY) (m : zM) (x : Option zV × zY × zM), zev n mi pc ls st L m = some x → zev (n + 1) mi pc ls st L m = some x := by
  intro n
  induction n with
  | zero => intro mi pc ls st L m x h; cases h
  | succ n ih =>
    intro mi pc ls st L m x h
    rw [zev] at h ⊢
    cases hs : zstep mi pc ls st L m with
    | none => rw [hs] at h; cases h
    | some y =>
      rw [hs] at h
      rcases y with ⟨pc1, ls1, st1, L1, m1⟩ | ⟨k, as, st1, pc1⟩ | r1
      · exact ih _ _ _ _ _ _ _ h
      · dsimp only at h ⊢
        cases h1 : zev n k 0 (zent (zmx k) as) [] L m with
        | none => rw [h1] at h; cases h
        | some q =>
          obtain ⟨r, L1, m1⟩ := q
          rw [h1] at h
          rw [ih _ _ _ _ _ _ _ h1]
          exact ih _ _ _ _ _ _ _ h
      · exact h
theorem zev_add {n k mi pc : Nat} {ls st : List zV} {L : zY} {m : zM} {x : Option zV × zY × zM} (h : zev n mi pc ls st L m = some x) : zev (n + k) mi pc ls st L m = some x := by
  induction k with
  | zero => exact h
  | succ k ih => exact zev_succ _ _ _ _ _ _ _ _ ih
/-- the machine comes to an end that has Q -/
def zwp (mi pc : Nat) (ls st : List zV) (L : zY) (m : zM) (Q : Option zV → zY → zM → Prop) : Prop := ∃ (n : Nat) (r : Option zV) (L' : zY) (m' : zM), zev n mi pc ls st L m = some (r, L', m') ∧ Q r L' m'
variable {mi pc : Nat} {ls st : List zV} {L : zY} {m : zM} {Q : Option zV → zY → zM → Prop}
theorem zwp_mono {Q' : Option zV → zY → zM → Prop} (h : zwp mi pc ls st L m Q) (hq : ∀ r L' m', Q r L' m' → Q' r L' m') : zwp mi pc ls st L m Q' := by
  obtain ⟨n, r, L', m', h1, h2⟩ := h
  exact ⟨n, r, L', m', h1, hq _ _ _ h2⟩
theorem zwp_next {pc' : Nat} {ls' st' : List zV} {L' : zY} {m' : zM} (h : zstep mi pc ls st L m = some (.inl (pc', ls', st', L', m'))) : zwp mi pc ls st L m Q ↔ zwp mi pc' ls' st' L' m' Q := by
  constructor
  · rintro ⟨n, r, L1, m1, h1, h2⟩
    cases n with
    | zero => cases h1
    | succ n => rw [zev, h] at h1; exact ⟨n, r, L1, m1, h1, h2⟩
  · rintro ⟨n, r, L1, m1, h1, h2⟩
    exact ⟨n + 1, r, L1, m1, by rw [zev, h]; exact h1, h2⟩
theorem zwp_none (h : zstep mi pc ls st L m = none) : zwp mi pc ls st L m Q ↔ False := by
  constructor
  · rintro ⟨n, r, L1, m1, h1, h2⟩
    cases n with
    | zero => cases h1
    | succ n => rw [zev, h] at h1; cases h1
  · exact False.elim
theorem zwp_ret {r : Option zV} (h : zstep mi pc ls st L m = some (.inr (.inr r))) : zwp mi pc ls st L m Q ↔ Q r L m := by
  constructor
  · rintro ⟨n, r1, L1, m1, h1, h2⟩
    cases n with
    | zero => cases h1
    | succ n => rw [zev, h] at h1; cases h1; exact h2
  · intro hq
    exact ⟨1, r, L, m, by rw [zev, h], hq⟩
theorem zwp_call {k pc' : Nat} {as st' : List zV} (h : zstep mi pc ls st L m = some (.inr (.inl (k, as, st', pc')))) : zwp mi pc ls st L m Q ↔ zwp k 0 (zent (zmx k) as) [] L m (fun r L1 m1 => zwp mi pc' ls (zpu r st') L1 m1 Q) := by
  constructor
  · rintro ⟨n, r, L1, m1, h1, h2⟩
    cases n with
    | zero => cases h1
    | succ n =>
      rw [zev, h] at h1
      dsimp only at h1
      cases h3 : zev n k 0 (zent (zmx k) as) [] L m with
      | none => rw [h3] at h1; cases h1
      | some q =>
        obtain ⟨r2, L2, m2⟩ := q
        rw [h3] at h1
        exact ⟨n, r2, L2, m2, h3, n, r, L1, m1, h1, h2⟩
  · rintro ⟨n, r2, L2, m2, h3, n2, r, L1, m1, h1, h2⟩
    refine ⟨n + n2 + 1, r, L1, m1, ?_, h2⟩
    rw [zev, h]
    dsimp only
    rw [zev_add h3]
    dsimp only
    rw [Nat.add_comm n n2]
    exact zev_add h1
theorem zwp_if {c : Prop} [Decidable c] {pc' : Nat} {ls' st' : List zV} {L' : zY} {m' : zM} (h : zstep mi pc ls st L m = if c then zgo pc' ls' st' L' m' else none) : zwp mi pc ls st L m Q ↔ c ∧ zwp mi pc' ls' st' L' m' Q := by
  by_cases hc : c
  · rw [if_pos hc] at h
    rw [zwp_next h]
    exact ⟨fun q => ⟨hc, q⟩, fun q => q.2⟩
  · rw [if_neg hc] at h
    rw [zwp_none h]
    exact ⟨False.elim, fun q => hc q.1⟩
theorem zwp_br {c : Prop} [Decidable c] {b : Bool} (hbc : b = decide c) {p1 p2 : Nat} {st' : List zV} (h : zstep mi pc ls st L m = bif b then zgo p1 ls st' L m else zgo p2 ls st' L m) : zwp mi pc ls st L m Q ↔ if c then zwp mi p1 ls st' L m Q else zwp mi p2 ls st' L m Q := by
  subst hbc
  by_cases hc : c
  · rw [decide_eq_true hc] at h
    rw [if_pos hc]
    exact zwp_next h
  · rw [decide_eq_false hc] at h
    rw [if_neg hc]
    exact zwp_next h
theorem zstep_eq {i : Instr} {n : Nat} (hi : zins mi pc = some (i, n)) : zstep mi pc ls st L m = zex (zcl mi) (zrk mi) (zfr mi) (zlo mi) i n pc ls st L m := by
  unfold zstep; rw [hi]
/-- a step that needs no test, by reckoning -/
theorem zr_go {i : Instr} {n pc' : Nat} {ls' st' : List zV} {L' : zY} {m' : zM} (hi : zins mi pc = some (i, n)) (h : zex (zcl mi) (zrk mi) (zfr mi) (zlo mi) i n pc ls st L m = zgo pc' ls' st' L' m') : zwp mi pc ls st L m Q ↔ zwp mi pc' ls' st' L' m' Q := zwp_next ((zstep_eq hi).trans h)
theorem zr_if {i : Instr} {n : Nat} {c : Prop} [Decidable c] {pc' : Nat} {ls' st' : List zV} {L' : zY} {m' : zM} (hi : zins mi pc = some (i, n)) (h : zex (zcl mi) (zrk mi) (zfr mi) (zlo mi) i n pc ls st L m = if c then zgo pc' ls' st' L' m' else none) : zwp mi pc ls st L m Q ↔ c ∧ zwp mi pc' ls' st' L' m' Q := zwp_if ((zstep_eq hi).trans h)
theorem zjmp_eq {off : Int} {pc' : Nat} (h : (pc : Int) + off = (pc' : Int)) : zjmp pc off ls st L m = zgo pc' ls st L m := by
  unfold zjmp
  rw [if_pos (by omega), h]
  rfl
theorem zr_goto {off : Int} {pc' n : Nat} (hi : zins mi pc = some (.goto off, n)) (h : (pc : Int) + off = (pc' : Int)) : zwp mi pc ls st L m Q ↔ zwp mi pc' ls st L m Q := zr_go hi (zjmp_eq h)
theorem zr_icmp {cd : Jvm.ClassFile.Cond} {off : Int} {pc' n : Nat} {x y : Int} {c : Prop} [Decidable c] (hi : zins mi pc = some (.if_icmp cd off, n)) (h : (pc : Int) + off = (pc' : Int)) (hc : zcd cd x y = decide c) : zwp mi pc ls (.inl y :: .inl x :: st) L m Q ↔ if c then zwp mi pc' ls st L m Q else zwp mi (pc + n) ls st L m Q :=
  zwp_br hc ((zstep_eq hi).trans (by rw [← zjmp_eq h]; rfl))
theorem zr_if0 {cd : Jvm.ClassFile.Cond} {off : Int} {pc' n : Nat} {x : Int} {c : Prop} [Decidable c] (hi : zins mi pc = some (.ifCond cd off, n)) (h : (pc : Int) + off = (pc' : Int)) (hc : zcd cd x 0 = decide c) : zwp mi pc ls (.inl x :: st) L m Q ↔ if c then zwp mi pc' ls st L m Q else zwp mi (pc + n) ls st L m Q :=
  zwp_br hc ((zstep_eq hi).trans (by rw [← zjmp_eq h]; rfl))
theorem zcd_ne {x y : Int} : zcd .ne x y = decide (¬ x = y) := rfl
theorem zr_null {off : Int} {pc' n a : Nat} (hi : zins mi pc = some (.ifnull off, n)) (h : (pc : Int) + off = (pc' : Int)) : zwp mi pc ls (.inr (.inr (.inl a)) :: st) L m Q ↔ if a = 0 then zwp mi pc' ls st L m Q else zwp mi (pc + n) ls st L m Q :=
  zwp_br (b := decide (a = 0)) rfl ((zstep_eq hi).trans (by
    rw [← zjmp_eq h]
    show (if a = 0 then _ else _) = _
    by_cases h0 : a = 0
    · rw [if_pos h0, decide_eq_true h0]; rfl
    · rw [if_neg h0, decide_eq_false h0]; rfl))
theorem zr_table {d lo hi : Int} {offs : Array Int} {n : Nat} {x : Int} (hi1 : zins mi pc = some (.tableswitch d lo hi offs, n)) {off : Int} {pc' : Nat} (hc : ¬ (x < lo ∨ hi < x)) (ho : offs[(x - lo).toNat]? = some off) (h : (pc : Int) + off = (pc' : Int)) : zwp mi pc ls (.inl x :: st) L m Q ↔ zwp mi pc' ls st L m Q :=
  zr_go hi1 (by
    show (if _ then _ else _) = _
    rw [if_neg hc]
    show (match offs[(x - lo).toNat]? with | some off => _ | none => none) = _
    rw [ho]
    exact zjmp_eq h)
theorem zr_tabled {d lo hi : Int} {offs : Array Int} {n : Nat} {x : Int} (hi1 : zins mi pc = some (.tableswitch d lo hi offs, n)) {pc' : Nat} (hc : x < lo ∨ hi < x) (h : (pc : Int) + d = (pc' : Int)) : zwp mi pc ls (.inl x :: st) L m Q ↔ zwp mi pc' ls st L m Q :=
  zr_go hi1 (by
    show (if _ then _ else _) = _
    rw [if_pos hc]
    exact zjmp_eq h)
theorem zr_look {d : Int} {ps : Array (Int × Int)} {n : Nat} {x : Int} (hi1 : zins mi pc = some (.lookupswitch d ps, n)) {pc' : Nat} (hs : (ps.toList.zip (ps.toList.drop 1)).all (fun (a, next) => a.1 < next.1) = true) (h : (pc : Int) + Op.lookupswitch.offset ps.toList d x = (pc' : Int)) : zwp mi pc ls (.inl x :: st) L m Q ↔ zwp mi pc' ls st L m Q :=
  zr_go hi1 (by
    show (if _ then _ else _) = _
    rw [if_pos hs]
    exact zjmp_eq h)
theorem zr_ret {i : Instr} {n : Nat} {r : Option zV} (hi : zins mi pc = some (i, n)) (h : zex (zcl mi) (zrk mi) (zfr mi) (zlo mi) i n pc ls st L m = some (.inr (.inr r))) : zwp mi pc ls st L m Q ↔ Q r L m := zwp_ret ((zstep_eq hi).trans h)
theorem zwp_ifr {c : Prop} [Decidable c] {r : Option zV} (h : zstep mi pc ls st L m = if c then some (.inr (.inr r)) else none) : zwp mi pc ls st L m Q ↔ c ∧ Q r L m := by
  by_cases hc : c
  · rw [if_pos hc] at h
    rw [zwp_ret h]
    exact ⟨fun q => ⟨hc, q⟩, fun q => q.2⟩
  · rw [if_neg hc] at h
    rw [zwp_none h]
    exact ⟨False.elim, fun q => hc q.1⟩
theorem zr_ireti {n : Nat} {x : Int} (hi : zins mi pc = some (.ireturn, n)) (hk : zrk mi = 0) : zwp mi pc ls [.inl x] L m Q ↔ Q (some (.inl x)) L m := zr_ret hi (by
  show (if _ then _ else _) = _
  rw [if_pos (Or.inl hk)])
theorem zr_iretz {n : Nat} {x : Int} (hi : zins mi pc = some (.ireturn, n)) (hk : zrk mi = 1) : zwp mi pc ls [.inl x] L m Q ↔ (x = 0 ∨ x = 1) ∧ Q (some (.inl x)) L m := by
  refine zwp_ifr ((zstep_eq hi).trans ?_)
  show (if _ then _ else _) = _
  rw [hk]
  simp
theorem zr_iretc {n : Nat} {x : Int} (hi : zins mi pc = some (.ireturn, n)) (hk : zrk mi = 2) : zwp mi pc ls [.inl x] L m Q ↔ (0 ≤ x ∧ x < 65536) ∧ Q (some (.inl x)) L m := by
  refine zwp_ifr ((zstep_eq hi).trans ?_)
  show (if _ then _ else _) = _
  rw [hk]
  simp
theorem zr_iretb {n : Nat} {x : Int} (hi : zins mi pc = some (.ireturn, n)) (hk : zrk mi = 3) : zwp mi pc ls [.inl x] L m Q ↔ (-128 ≤ x ∧ x < 128) ∧ Q (some (.inl x)) L m := by
  refine zwp_ifr ((zstep_eq hi).trans ?_)
  show (if _ then _ else _) = _
  rw [hk]
  simp
theorem zwp_ifc {c : Prop} [Decidable c] {k pc' : Nat} {as st' : List zV} (h : zstep mi pc ls st L m = if c then some (.inr (.inl (k, as, st', pc'))) else none) : zwp mi pc ls st L m Q ↔ c ∧ zwp k 0 (zent (zmx k) as) [] L m (fun r L1 m1 => zwp mi pc' ls (zpu r st') L1 m1 Q) := by
  by_cases hc : c
  · rw [if_pos hc] at h
    rw [zwp_call h]
    exact ⟨fun q => ⟨hc, q⟩, fun q => q.2⟩
  · rw [if_neg hc] at h
    rw [zwp_none h]
    exact ⟨False.elim, fun q => hc q.1⟩
theorem zr_c0 {k na idx n a : Nat} {t : List zV} (hi : zins mi pc = some (.invokevirtual idx, n)) (hc : zlk zcal (zkey (zcl mi) idx) = some (k, na, 0)) (hf : zfr k + 1 ≤ zfr mi ∧ 8 + (zmx k + 11) + zlo k ≤ zlo mi) (hs : na ≤ st.length ∧ zsum (st.drop na) ≤ 8 ∧ zsum (st.take na) ≤ zmx k) (ha : (st.take na).reverse = .inr (.inr (.inl a)) :: t) :
    zwp mi pc ls st L m Q ↔ zt L a = zcl k + 1 ∧ zwp k 0 (zent (zmx k) (.inr (.inr (.inl a)) :: t)) [] L m (fun r L1 m1 => zwp mi (pc + n) ls (zpu r (st.drop na)) L1 m1 Q) := by
  refine zwp_ifc ((zstep_eq hi).trans ?_)
  show (match zlk zcal (zkey (zcl mi) idx) with | some (q, a, 0) => _ | some (q, a, 4) => _ | _ => _) = _
  rw [hc]
  show zcall _ _ _ _ _ _ _ _ = _
  simp only [zcall]
  rw [if_pos ⟨hf.1, hf.2, hs.1, hs.2.1, hs.2.2⟩, ha]
theorem zr_c1 {k na idx n : Nat} (hi : zins mi pc = some (.invokestatic idx, n)) (hc : zlk zcal (zkey (zcl mi) idx) = some (k, na, 1)) (hf : zfr k + 1 ≤ zfr mi ∧ 8 + (zmx k + 11) + zlo k ≤ zlo mi) (hs : na ≤ st.length ∧ zsum (st.drop na) ≤ 8 ∧ zsum (st.take na) ≤ zmx k) :
    zwp mi pc ls st L m Q ↔ zwp k 0 (zent (zmx k) (st.take na).reverse) [] L m (fun r L1 m1 => zwp mi (pc + n) ls (zpu r (st.drop na)) L1 m1 Q) := by
  refine zwp_call ((zstep_eq hi).trans ?_)
  show (match zlk zcal (zkey (zcl mi) idx) with | some (q, a, 1) => _ | some (q, a, 5) => _ | some (q, a, 6) => _ | _ => _) = _
  rw [hc]
  show zcall _ _ _ _ _ _ _ _ = _
  simp only [zcall]
  rw [if_pos ⟨hf.1, hf.2, hs.1, hs.2.1, hs.2.2⟩]
theorem zr_c2 {k na idx n a : Nat} {t : List zV} (hi : zins mi pc = some (.invokespecial idx, n)) (hc : zlk zcal (zkey (zcl mi) idx) = some (k, na, 2)) (hf : zfr k + 1 ≤ zfr mi ∧ 8 + (zmx k + 11) + zlo k ≤ zlo mi) (hs : na ≤ st.length ∧ zsum (st.drop na) ≤ 8 ∧ zsum (st.take na) ≤ zmx k) (ha : (st.take na).reverse = .inr (.inr (.inl a)) :: t) :
    zwp mi pc ls st L m Q ↔ 2 ≤ a ∧ zwp k 0 (zent (zmx k) (.inr (.inr (.inl a)) :: t)) [] L m (fun r L1 m1 => zwp mi (pc + n) ls (zpu r (st.drop na)) L1 m1 Q) := by
  refine zwp_ifc ((zstep_eq hi).trans ?_)
  show (match zlk zcal (zkey (zcl mi) idx) with | some (q, a, 2) => _ | some (q, a, 3) => _ | _ => _) = _
  rw [hc]
  show zcall _ _ _ _ _ _ _ _ = _
  simp only [zcall]
  rw [if_pos ⟨hf.1, hf.2, hs.1, hs.2.1, hs.2.2⟩, ha]
theorem zr_c3 {k na idx n a : Nat} (hi : zins mi pc = some (.invokespecial idx, n)) (hc : zlk zcal (zkey (zcl mi) idx) = some (k, na, 3)) (hf : 1 ≤ zfr mi ∧ 20 ≤ zlo mi) (hs : zsum st ≤ 8) : zwp mi pc ls (.inr (.inr (.inl a)) :: st) L m Q ↔ 2 ≤ a ∧ zwp mi (pc + n) ls st L m Q := by
  refine zwp_if ((zstep_eq hi).trans ?_)
  show (match zlk zcal (zkey (zcl mi) idx) with | some (q, a, 2) => _ | some (q, a, 3) => _ | _ => _) = _
  rw [hc]
  show zcall _ _ _ _ _ _ _ _ = _
  simp only [zcall]
  by_cases h2 : 2 ≤ a
  · rw [if_pos ⟨h2, hf.1, hf.2, hs⟩, if_pos h2]
  · rw [if_neg (fun q => h2 q.1), if_neg h2]
theorem zr_c4 {k na idx n j : Nat} {t : List zV} (hi : zins mi pc = some (.invokevirtual idx, n)) (hc : zlk zcal (zkey (zcl mi) idx) = some (k, na, 4)) (hf : zfr k + 1 ≤ zfr mi ∧ 8 + (zmx k + 11) + zlo k ≤ zlo mi) (hs : na ≤ st.length ∧ zsum (st.drop na) ≤ 8 ∧ zsum (st.take na) ≤ zmx k) (ha : (st.take na).reverse = .inr (.inr (.inr (0, j))) :: t) :
    zwp mi pc ls st L m Q ↔ zwp k 0 (zent (zmx k) (.inr (.inr (.inr (0, j))) :: t)) [] L m (fun r L1 m1 => zwp mi (pc + n) ls (zpu r (st.drop na)) L1 m1 Q) := by
  refine zwp_call ((zstep_eq hi).trans ?_)
  show (match zlk zcal (zkey (zcl mi) idx) with | some (q, a, 0) => _ | some (q, a, 4) => _ | _ => _) = _
  rw [hc]
  show zcall _ _ _ _ _ _ _ _ = _
  simp only [zcall]
  rw [if_pos ⟨hf.1, hf.2, hs.1, hs.2.1, hs.2.2⟩, ha]
  rfl
theorem zr_c6 {k na idx n : Nat} {x y : Int} (hi : zins mi pc = some (.invokestatic idx, n)) (hc : zlk zcal (zkey (zcl mi) idx) = some (k, na, 6)) (hf : 1 ≤ zfr mi ∧ 21 ≤ zlo mi) (hs : zsum st ≤ 8) : zwp mi pc ls (.inl y :: .inl x :: st) L m Q ↔ zwp mi (pc + n) ls (.inl (if y < x then y else x) :: st) L m Q := by
  refine zwp_next ((zstep_eq hi).trans ?_)
  show (match zlk zcal (zkey (zcl mi) idx) with | some (q, a, 1) => _ | some (q, a, 5) => _ | some (q, a, 6) => _ | _ => _) = _
  rw [hc]
  show zcall _ _ _ _ _ _ _ _ = _
  simp only [zcall]
  rw [if_pos ⟨hf.1, hf.2, hs⟩]
  rfl
theorem zr_gi {k n t f a : Nat} (hi : zins mi pc = some (.getfield k, n)) (hf : zlk zfld (zkey (zcl mi) k) = some (t, f, 0)) : zwp mi pc ls (.inr (.inr (.inl a)) :: st) L m Q ↔ zt L a = t ∧ zwp mi (pc + n) ls (.inl (m a f) :: st) L m Q := by
  refine zr_if hi ?_
  show (match zlk zfld (zkey (zcl mi) k) with | some f => _ | none => none) = _
  rw [hf]
  rfl
theorem zr_gz {k n t f a : Nat} (hi : zins mi pc = some (.getfield k, n)) (hf : zlk zfld (zkey (zcl mi) k) = some (t, f, 1)) : zwp mi pc ls (.inr (.inr (.inl a)) :: st) L m Q ↔ zt L a = t ∧ zwp mi (pc + n) ls (.inl (m a f) :: st) L m Q := by
  refine zr_if hi ?_
  show (match zlk zfld (zkey (zcl mi) k) with | some f => _ | none => none) = _
  rw [hf]
  rfl
theorem zr_ga {k n t f a : Nat} (hi : zins mi pc = some (.getfield k, n)) (hf : zlk zfld (zkey (zcl mi) k) = some (t, f, 3)) : zwp mi pc ls (.inr (.inr (.inl a)) :: st) L m Q ↔ zt L a = t ∧ zwp mi (pc + n) ls (.inr (.inr (.inl (m a f).toNat)) :: st) L m Q := by
  refine zr_if hi ?_
  show (match zlk zfld (zkey (zcl mi) k) with | some f => _ | none => none) = _
  rw [hf]
  rfl
theorem zr_gsv {k n t f j : Nat} (hi : zins mi pc = some (.getfield k, n)) (hf : zlk zfld (zkey (zcl mi) k) = some (t, f, 5)) : zwp mi pc ls (.inr (.inr (.inr (0, j))) :: st) L m Q ↔ zwp mi (pc + n) ls (.inr (.inr (.inr (1, j))) :: st) L m Q := by
  refine zr_go hi ?_
  show (match zlk zfld (zkey (zcl mi) k) with | some f => _ | none => none) = _
  rw [hf]
  rfl
theorem zr_gsc {k n t f j : Nat} (hi : zins mi pc = some (.getfield k, n)) (hf : zlk zfld (zkey (zcl mi) k) = some (t, f, 6)) : zwp mi pc ls (.inr (.inr (.inr (0, j))) :: st) L m Q ↔ zwp mi (pc + n) ls (.inl 0 :: st) L m Q := by
  refine zr_go hi ?_
  show (match zlk zfld (zkey (zcl mi) k) with | some f => _ | none => none) = _
  rw [hf]
  rfl
theorem zr_pi {k n t f a : Nat} {x : Int} (hi : zins mi pc = some (.putfield k, n)) (hf : zlk zfld (zkey (zcl mi) k) = some (t, f, 0)) : zwp mi pc ls (.inl x :: .inr (.inr (.inl a)) :: st) L m Q ↔ zt L a = t ∧ zwp mi (pc + n) ls st L (zup m a f x) Q := by
  refine zr_if hi ?_
  show (match zlk zfld (zkey (zcl mi) k) with | some f => _ | none => none) = _
  rw [hf]
  rfl
theorem zr_pz {k n t f a : Nat} {x : Int} (hi : zins mi pc = some (.putfield k, n)) (hf : zlk zfld (zkey (zcl mi) k) = some (t, f, 1)) : zwp mi pc ls (.inl x :: .inr (.inr (.inl a)) :: st) L m Q ↔ (zt L a = t ∧ (x = 0 ∨ x = 1)) ∧ zwp mi (pc + n) ls st L (zup m a f x) Q := by
  refine zr_if hi ?_
  show (match zlk zfld (zkey (zcl mi) k) with | some f => _ | none => none) = _
  rw [hf]
  rfl
theorem zr_pa {k n t f a v : Nat} (hi : zins mi pc = some (.putfield k, n)) (hf : zlk zfld (zkey (zcl mi) k) = some (t, f, 3)) : zwp mi pc ls (.inr (.inr (.inl v)) :: .inr (.inr (.inl a)) :: st) L m Q ↔ (zt L a = t ∧ v < L.1.length) ∧ zwp mi (pc + n) ls st L (zup m a f (v : Int)) Q := by
  refine zr_if hi ?_
  show (match zlk zfld (zkey (zcl mi) k) with | some f => _ | none => none) = _
  rw [hf]
  rfl
theorem zr_cst {k n : Nat} {v : Int} (hi : zins mi pc = some (.ldc k, n)) (hf : zlk zcst (zkey (zcl mi) k) = some v) : zwp mi pc ls st L m Q ↔ zwp mi (pc + n) ls (.inl v :: st) L m Q := by
  refine zr_go hi ?_
  show (match zlk zcst (zkey (zcl mi) k), zlk zstr (zkey (zcl mi) k) with | some v, _ => _ | none, some j => _ | none, none => none) = _
  rw [hf]
theorem zr_cstw {k n : Nat} {v : Int} (hi : zins mi pc = some (.ldc_w k, n)) (hf : zlk zcst (zkey (zcl mi) k) = some v) : zwp mi pc ls st L m Q ↔ zwp mi (pc + n) ls (.inl v :: st) L m Q := by
  refine zr_go hi ?_
  show (match zlk zcst (zkey (zcl mi) k) with | some v => _ | none => none) = _
  rw [hf]
theorem zr_lng {k n : Nat} {v : Int} (hi : zins mi pc = some (.ldc2_w k, n)) (hf : zlk zlng (zkey (zcl mi) k) = some v) : zwp mi pc ls st L m Q ↔ zwp mi (pc + n) ls (.inr (.inl v) :: st) L m Q := by
  refine zr_go hi ?_
  show (match zlk zlng (zkey (zcl mi) k) with | some v => _ | none => none) = _
  rw [hf]
theorem zr_str {k n j : Nat} (hi : zins mi pc = some (.ldc k, n)) (hf0 : zlk zcst (zkey (zcl mi) k) = none) (hf : zlk zstr (zkey (zcl mi) k) = some j) : zwp mi pc ls st L m Q ↔ zwp mi (pc + n) ls (.inr (.inr (.inr (0, j))) :: st) L m Q := by
  refine zr_go hi ?_
  show (match zlk zcst (zkey (zcl mi) k), zlk zstr (zkey (zcl mi) k) with | some v, _ => _ | none, some j => _ | none, none => none) = _
  rw [hf0, hf]
theorem zr_gst0 {k n : Nat} (hi : zins mi pc = some (.getstatic k, n)) (hf : zlk zgst (zkey (zcl mi) k) = some 0) : zwp mi pc ls st L m Q ↔ zwp mi (pc + n) ls (.inl 1 :: st) L m Q := by
  refine zr_go hi ?_
  show (match zlk zgst (zkey (zcl mi) k) with | some 0 => _ | some _ => _ | none => none) = _
  rw [hf]
  rfl
theorem zr_gst1 {k n : Nat} (hi : zins mi pc = some (.getstatic k, n)) (hf : zlk zgst (zkey (zcl mi) k) = some 1) : zwp mi pc ls st L m Q ↔ zwp mi (pc + n) ls (.inr (.inr (.inr (2, 0))) :: st) L m Q := by
  refine zr_go hi ?_
  show (match zlk zgst (zkey (zcl mi) k) with | some 0 => _ | some _ => _ | none => none) = _
  rw [hf]
  rfl
theorem zr_new {k n t f : Nat} (hi : zins mi pc = some (.new k, n)) (hf : zlk znew (zkey (zcl mi) k) = some (t, f)) (ht : 0 < t ∧ t < 20) : zwp mi pc ls st L m Q ↔ L.2.1 = 0 ∧ zwp mi (pc + n) ls (.inr (.inr (.inl L.1.length)) :: st) (znu L t f) (zclr m L.1.length 1) Q := by
  refine zr_if hi ?_
  show (match zlk znew (zkey (zcl mi) k) with | some (t, f) => _ | none => none) = _
  rw [hf]
  show (if _ then _ else _) = _
  by_cases h0 : L.2.1 = 0
  · rw [if_pos ⟨h0, ht.1, ht.2⟩, if_pos h0]
  · rw [if_neg (fun q => h0 q.1), if_neg h0]
theorem zr_mul {k n t f : Nat} {x y : Int} (hi : zins mi pc = some (.multianewarray k 2, n)) (hf : zlk znew (zkey (zcl mi) k) = some (t, f)) (ht : t = 22 ∨ t = 23) : zwp mi pc ls (.inl y :: .inl x :: st) L m Q ↔ (L.2.1 = 0 ∧ 0 ≤ x ∧ x < 1000 ∧ 0 ≤ y ∧ y < 1000) ∧ zwp mi (pc + n) ls (.inr (.inr (.inl L.1.length)) :: st) (L.1 ++ ((t, x.toNat) :: List.replicate x.toNat (t - 2, y.toNat)), L.2) (zmna m L.1.length x.toNat) Q := by
  refine zr_if hi ?_
  show (match zlk znew (zkey (zcl mi) k), (Sum.inl y :: Sum.inl x :: st : List zV) with | some (t, _), .inl y :: .inl x :: r => _ | _, _ => none) = _
  rw [hf]
  show (if _ then _ else _) = _
  by_cases h0 : L.2.1 = 0 ∧ 0 ≤ x ∧ x < 1000 ∧ 0 ≤ y ∧ y < 1000
  · rw [if_pos ⟨h0.1, ht, h0.2⟩, if_pos h0]
  · rw [if_neg (fun q => h0 ⟨q.1, q.2.2⟩), if_neg h0]
theorem zr_stT {i : Instr} {n k : Nat} {v : zV} {ls' : List zV} (hi : zins mi pc = some (i, n)) (h : zex (zcl mi) (zrk mi) (zfr mi) (zlo mi) i n pc ls (v :: st) L m = (zst ls k v).bind fun ls => zgo (pc + n) ls st L m) (hk : k < ls.length) (h0 : k ≠ 0) (hls : ls.set k v = ls') : zwp mi pc ls (v :: st) L m Q ↔ zlong (ls.getD (k - 1) zU) = false ∧ zwp mi (pc + n) ls' st L m Q := by
  refine zwp_if ((zstep_eq hi).trans (h.trans ?_))
  unfold zst
  subst hls
  by_cases hc : zlong (ls.getD (k - 1) zU) = false
  · rw [if_pos ⟨hk, Or.inr hc⟩, if_pos hc]; rfl
  · rw [if_neg (fun q => q.2.elim h0 hc), if_neg hc]; rfl
theorem zlong_I {x : Int} : zlong (.inl x) = false := rfl
theorem zlong_A {x : Nat} : zlong (.inr (.inr (.inl x))) = false := rfl
theorem zlong_S {x : Nat × Nat} : zlong (.inr (.inr (.inr x))) = false := rfl
theorem zpu_some {v : zV} : zpu (some v) st = v :: st := rfl
theorem zpu_none : zpu none st = st := rfl
end ZW1
abbrev zQ : Type := Option zV → zY → zM → Prop
