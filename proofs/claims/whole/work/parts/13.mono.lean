section ZH
def zmon (r : Option zR) (L : zY) : Prop := ∀ (pc : Nat) (ls st : List zV) (L' : zY) (m : zM), r = some (.inl (pc, ls, st, L', m)) → zcells L ≤ zcells L' ∧ zslots L ≤ zslots L'
theorem zmon_none {L : zY} : zmon none L := fun _ _ _ _ _ h => by cases h
theorem zmon_go {pc : Nat} {ls st : List zV} {L : zY} {m : zM} : zmon (zgo pc ls st L m) L := fun _ _ _ _ _ h => by
  simp only [zgo, Option.some.injEq, Sum.inl.injEq, Prod.mk.injEq] at h
  obtain ⟨-, -, -, rfl, -⟩ := h
  exact ⟨Nat.le_refl _, Nat.le_refl _⟩
theorem zmon_nu {pc : Nat} {ls st : List zV} {L : zY} {m : zM} {t n : Nat} : zmon (zgo pc ls st (znu L t n) m) L := fun _ _ _ _ _ h => by
  simp only [zgo, Option.some.injEq, Sum.inl.injEq, Prod.mk.injEq] at h
  obtain ⟨-, -, -, rfl, -⟩ := h
  rw [zcells_nu, zslots_nu]
  omega
theorem zmon_mna {pc : Nat} {ls st : List zV} {L : zY} {m : zM} {t x y : Nat} : zmon (zgo pc ls st (L.1 ++ ((t, x) :: List.replicate x (t - 2, y)), L.2) m) L := fun _ _ _ _ _ h => by
  simp only [zgo, Option.some.injEq, Sum.inl.injEq, Prod.mk.injEq] at h
  obtain ⟨-, -, -, rfl, -⟩ := h
  rw [zcells_mna, zslots_mna]
  omega
theorem zmon_r {L : zY} {x : (Nat × List zV × List zV × Nat) ⊕ Option zV} : zmon (some (.inr x)) L := fun _ _ _ _ _ h => by
  simp at h
theorem zmon_bind {α : Type} {L : zY} {x : Option α} {f : α → Option zR} (h : ∀ a, zmon (f a) L) : zmon (x.bind f) L := by
  cases x with
  | none => exact zmon_none
  | some a => exact h a
theorem zmon_jmp {pc : Nat} {off : Int} {ls st : List zV} {L : zY} {m : zM} : zmon (zjmp pc off ls st L m) L := by
  unfold zjmp
  split
  · exact zmon_go
  · exact zmon_none
theorem zmon_ld {k pc i : Nat} {ls st : List zV} {L : zY} {m : zM} : zmon (zld k pc ls st i L m) L := by
  unfold zld
  split
  · exact zmon_go
  · exact zmon_go
  · exact zmon_go
  · split
    · exact zmon_go
    · exact zmon_none
  · exact zmon_none
theorem zmon_sto {k pc i : Nat} {ls st : List zV} {L : zY} {m : zM} : zmon (zsto k pc ls st i L m) L := by
  unfold zsto
  split
  · exact zmon_bind fun _ => zmon_go
  · exact zmon_bind fun _ => zmon_go
  · exact zmon_bind fun _ => zmon_go
  · exact zmon_none
theorem zmon_bin {f : Int → Int → Int} {pc : Nat} {ls st : List zV} {L : zY} {m : zM} : zmon (zbin f pc ls st L m) L := by
  unfold zbin
  split
  · exact zmon_go
  · exact zmon_none
theorem zmon_gf {f : Nat × Nat × Nat} {pc : Nat} {ls st : List zV} {L : zY} {m : zM} : zmon (zgf f pc ls st L m) L := by
  unfold zgf
  split <;> first | exact zmon_go | exact zmon_none | (split <;> first | exact zmon_go | exact zmon_none)
theorem zmon_pf {f : Nat × Nat × Nat} {pc : Nat} {ls st : List zV} {L : zY} {m : zM} : zmon (zpf f pc ls st L m) L := by
  unfold zpf
  split <;> first | exact zmon_go | exact zmon_none | (split <;> first | exact zmon_go | exact zmon_none)
theorem ztold_inv {st st' : List zV} {L L' : zY} {m m' : zM} (h : ztold st L m = some (st', L', m')) : ∃ (o : Nat) (k sort : Int) (a : Nat) (r : List zV) (q : Nat), st = .inr (.inr (.inl o)) :: .inl k :: .inl sort :: .inr (.inr (.inl a)) :: r ∧ (zt L a = 10 ∧ zt L o = 21 ∧ 0 < zn L o ∧ zsum r ≤ 8 ∧ zt L (m a 9).toNat = 6) ∧
    q = (m (m a 9).toNat (if sort = 0 then 1 else if sort = 1 then 2 else 3)).toNat ∧ (zt L q = 2 ∧ 2 ≤ (m q 0).toNat ∧ zt L (m q 0).toNat = 20 ∧ m q 1 ≤ zn L (m q 0).toNat) ∧
    (((m a 11 = 1 ∧ 0 ≤ sort ∧ sort ≤ 2 ∧ 0 ≤ k ∧ k < m q 1) ∧ st' = .inl 0 :: r ∧ L' = L ∧ m' = zup m o 0 (m (m q 0).toNat k.toNat)) ∨ (¬ (m a 11 = 1 ∧ 0 ≤ sort ∧ sort ≤ 2 ∧ 0 ≤ k ∧ k < m q 1) ∧ st' = .inl 1 :: r ∧ L' = (L.1, (L.2.1 + 1, L.2.2 + 6)) ∧ m' = m)) := by
  unfold ztold at h
  split at h
  · rename_i o k sort a r
    dsimp only at h
    generalize hq : (m (m a 9).toNat (if sort = 0 then 1 else if sort = 1 then 2 else 3)).toNat = q at h
    by_cases c1 : zt L a = 10 ∧ zt L o = 21 ∧ 0 < zn L o ∧ zsum r ≤ 8 ∧ zt L (m a 9).toNat = 6
    · rw [if_pos c1] at h
      by_cases c2 : zt L q = 2 ∧ 2 ≤ (m q 0).toNat ∧ zt L (m q 0).toNat = 20 ∧ m q 1 ≤ zn L (m q 0).toNat
      · rw [if_pos c2] at h
        refine ⟨o, k, sort, a, r, q, rfl, c1, hq.symm, c2, ?_⟩
        by_cases c3 : m a 11 = 1 ∧ 0 ≤ sort ∧ sort ≤ 2 ∧ 0 ≤ k ∧ k < m q 1
        · rw [if_pos c3] at h
          cases h
          exact Or.inl ⟨c3, rfl, rfl, rfl⟩
        · rw [if_neg c3] at h
          cases h
          exact Or.inr ⟨c3, rfl, rfl, rfl⟩
      · rw [if_neg c2] at h; cases h
    · rw [if_neg c1] at h; cases h
  · cases h
theorem zmon_told {pc : Nat} {ls st : List zV} {L : zY} {m : zM} : zmon ((ztold st L m).bind fun q => zgo pc ls q.1 q.2.1 q.2.2) L := by
  intro a1 a2 a3 L' a5 h
  simp only [Option.bind_eq_some_iff] at h
  obtain ⟨⟨q1, q2, q3⟩, h1, h2⟩ := h
  simp only [zgo, Option.some.injEq, Sum.inl.injEq, Prod.mk.injEq] at h2
  obtain ⟨-, -, -, rfl, -⟩ := h2
  obtain ⟨o, k, sort, a, r, q, -, -, -, -, h3⟩ := ztold_inv h1
  rcases h3 with ⟨-, -, rfl, -⟩ | ⟨-, -, rfl, -⟩
  · exact ⟨Nat.le_refl _, Nat.le_refl _⟩
  · exact ⟨by show _ ≤ L.1.length + (L.2.1 + 1); unfold zcells; omega, by show _ ≤ (L.1.map (fun q => q.2)).sum + (L.2.2 + 6); unfold zslots; omega⟩
theorem zmon_call {fr lo : Nat} {q : Nat × Nat × Nat} {pc : Nat} {ls st : List zV} {L : zY} {m : zM} : zmon (zcall fr lo q pc ls st L m) L := by
  unfold zcall
  split
  · split
    · split
      · split
        · exact zmon_r
        · exact zmon_none
      · exact zmon_none
    · exact zmon_none
  · split
    · exact zmon_r
    · exact zmon_none
  · split
    · split
      · split
        · exact zmon_r
        · exact zmon_none
      · exact zmon_none
    · exact zmon_none
  · split
    · split
      · exact zmon_go
      · exact zmon_none
    · exact zmon_none
  · split
    · split
      · exact zmon_r
      · exact zmon_none
    · exact zmon_none
  · split
    · split
      · exact zmon_go
      · exact zmon_none
    · exact zmon_none
  · split
    · exact zmon_told
    · exact zmon_none
  · exact zmon_none
theorem zmon_cond {b : Bool} {x y : Option zR} {L : zY} (hx : zmon x L) (hy : zmon y L) : zmon (bif b then x else y) L := by
  cases b
  · exact hy
  · exact hx
set_option maxHeartbeats 4000000 in
theorem zmon_ex {ci rk fr lo n pc : Nat} {i : Instr} {ls st : List zV} {L : zY} {m : zM} : zmon (zex ci rk fr lo i n pc ls st L m) L := by
  cases i
  all_goals (unfold zex; dsimp only)
  all_goals first
    | exact zmon_none
    | exact zmon_go
    | exact zmon_ld
    | exact zmon_sto
    | exact zmon_bin
    | exact zmon_jmp
    | skip
  all_goals (repeat' (first
    | exact zmon_none
    | exact zmon_go
    | exact zmon_r
    | exact zmon_jmp
    | exact zmon_ld
    | exact zmon_sto
    | exact zmon_bin
    | exact zmon_gf
    | exact zmon_pf
    | exact zmon_call
    | exact zmon_nu
    | exact zmon_mna
    | exact zmon_bind fun _ => zmon_go
    | exact zmon_cond zmon_jmp zmon_go
    | split))
theorem zmon_ev : ∀ (n mi pc : Nat) (ls st : List zV) (L : zY) (m : zM) (r : Option zV) (L' : zY) (m' : zM), zev n mi pc ls st L m = some (r, L', m') → zcells L ≤ zcells L' ∧ zslots L ≤ zslots L' := by
  intro n
  induction n with
  | zero => intro mi pc ls st L m r L' m' h; cases h
  | succ n ih =>
    intro mi pc ls st L m r L' m' h
    unfold zev at h
    cases hs : zstep mi pc ls st L m with
    | none => rw [hs] at h; cases h
    | some x =>
      rw [hs] at h
      have hm : zmon (some x) L := by
        rw [← hs]
        unfold zstep
        split
        · exact zmon_ex
        · exact zmon_none
      rcases x with ⟨pc1, ls1, st1, L1, m1⟩ | ⟨k, as, st1, pc1⟩ | r1
      · have h1 := hm _ _ _ _ _ rfl
        have h2 := ih _ _ _ _ _ _ _ _ _ h
        omega
      · dsimp only at h
        split at h
        · cases h
        · rename_i r1 L1 m1 h1
          have h2 := ih _ _ _ _ _ _ _ _ _ h1
          have h3 := ih _ _ _ _ _ _ _ _ _ h
          omega
      · cases h
        exact ⟨Nat.le_refl _, Nat.le_refl _⟩
end ZH
