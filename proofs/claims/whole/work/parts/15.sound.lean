section ZK1
/-- a call: which, and what its row says -/
def zcsp (ci fr lo : Nat) (i : Instr) (n pc : Nat) (st : List zV) (L : zY) (x : Nat × List zV × List zV × Nat) : Prop :=
  ∃ idx na kd : Nat, ((i = .invokevirtual idx ∧ (kd = 0 ∨ kd = 4)) ∨ (i = .invokestatic idx ∧ kd = 1) ∨ (i = .invokespecial idx ∧ kd = 2)) ∧ zlk zcal (zkey ci idx) = some (x.1, na, kd) ∧ zfr x.1 + 1 ≤ fr ∧ 8 + (zmx x.1 + 11) + zlo x.1 ≤ lo ∧ na ≤ st.length ∧ zsum (st.drop na) ≤ 8 ∧ zsum (st.take na) ≤ zmx x.1 ∧
    x.2.1 = (st.take na).reverse ∧ x.2.2.1 = st.drop na ∧ x.2.2.2 = pc + n ∧ (kd = 0 → ∃ a t, x.2.1 = .inr (.inr (.inl a)) :: t ∧ zt L a = zcl x.1 + 1) ∧ (kd = 2 → ∃ a t, x.2.1 = .inr (.inr (.inl a)) :: t ∧ 2 ≤ a) ∧ (kd = 4 → ∃ j t, x.2.1 = .inr (.inr (.inr (0, j))) :: t)
def zrsp (rk : Nat) (i : Instr) (st : List zV) (r : Option zV) : Prop :=
  (i = .ireturn ∧ ∃ x : Int, r = some (.inl x) ∧ st = [.inl x] ∧ (rk = 0 ∨ (rk = 1 ∧ (x = 0 ∨ x = 1)) ∨ (rk = 2 ∧ 0 ≤ x ∧ x < 65536) ∨ (rk = 3 ∧ -128 ≤ x ∧ x < 128))) ∨
  (i = .lreturn ∧ rk = 4 ∧ ∃ x : Int, r = some (.inr (.inl x)) ∧ st = [.inr (.inl x)]) ∨
  (i = .areturn ∧ rk = 5 ∧ ∃ a : Nat, r = some (.inr (.inr (.inl a))) ∧ st = [.inr (.inr (.inl a))]) ∨
  (i = .return_ ∧ rk = 6 ∧ r = none ∧ st = [])
def zrr (P : (Nat × List zV × List zV × Nat) ⊕ Option zV → Prop) (r : Option zR) : Prop := ∀ x, r = some (.inr x) → P x
variable {P : (Nat × List zV × List zV × Nat) ⊕ Option zV → Prop}
theorem zrr_none : zrr P none := fun _ h => by cases h
theorem zrr_go {pc : Nat} {ls st : List zV} {L : zY} {m : zM} : zrr P (zgo pc ls st L m) := fun _ h => by simp [zgo] at h
theorem zrr_r {x : (Nat × List zV × List zV × Nat) ⊕ Option zV} (h : P x) : zrr P (some (.inr x)) := fun y hy => by
  have : x = y := by simpa using hy
  exact this ▸ h
theorem zrr_bind {α : Type} {x : Option α} {f : α → Option zR} (h : ∀ a, zrr P (f a)) : zrr P (x.bind f) := by
  cases x with
  | none => exact zrr_none
  | some a => exact h a
theorem zrr_cond {b : Bool} {x y : Option zR} (hx : zrr P x) (hy : zrr P y) : zrr P (bif b then x else y) := by
  cases b
  · exact hy
  · exact hx
theorem zrr_jmp {pc : Nat} {off : Int} {ls st : List zV} {L : zY} {m : zM} : zrr P (zjmp pc off ls st L m) := by
  unfold zjmp
  split
  · exact zrr_go
  · exact zrr_none
theorem zrr_ld {k pc i : Nat} {ls st : List zV} {L : zY} {m : zM} : zrr P (zld k pc ls st i L m) := by
  unfold zld
  split
  · exact zrr_go
  · exact zrr_go
  · exact zrr_go
  · split
    · exact zrr_go
    · exact zrr_none
  · exact zrr_none
theorem zrr_sto {k pc i : Nat} {ls st : List zV} {L : zY} {m : zM} : zrr P (zsto k pc ls st i L m) := by
  unfold zsto
  split
  · exact zrr_bind fun _ => zrr_go
  · exact zrr_bind fun _ => zrr_go
  · exact zrr_bind fun _ => zrr_go
  · exact zrr_none
theorem zrr_bin {f : Int → Int → Int} {pc : Nat} {ls st : List zV} {L : zY} {m : zM} : zrr P (zbin f pc ls st L m) := by
  unfold zbin
  split
  · exact zrr_go
  · exact zrr_none
theorem zrr_gf {f : Nat × Nat × Nat} {pc : Nat} {ls st : List zV} {L : zY} {m : zM} : zrr P (zgf f pc ls st L m) := by
  unfold zgf
  split <;> first | exact zrr_go | exact zrr_none | (split <;> first | exact zrr_go | exact zrr_none)
theorem zrr_pf {f : Nat × Nat × Nat} {pc : Nat} {ls st : List zV} {L : zY} {m : zM} : zrr P (zpf f pc ls st L m) := by
  unfold zpf
  split <;> first | exact zrr_go | exact zrr_none | (split <;> first | exact zrr_go | exact zrr_none)
theorem zrr_c0 {fr lo k na : Nat} {pc : Nat} {ls st : List zV} {L : zY} {m : zM} (h : ∀ a t, (st.take na).reverse = .inr (.inr (.inl a)) :: t → zt L a = zcl k + 1 → zfr k + 1 ≤ fr ∧ 8 + (zmx k + 11) + zlo k ≤ lo ∧ na ≤ st.length ∧ zsum (st.drop na) ≤ 8 ∧ zsum (st.take na) ≤ zmx k → P (.inl (k, .inr (.inr (.inl a)) :: t, st.drop na, pc))) : zrr P (zcall fr lo (k, na, 0) pc ls st L m) := by
  simp only [zcall]
  split
  · rename_i hc
    split
    · rename_i a t hq
      split
      · rename_i hz
        exact zrr_r (h a t hq hz hc)
      · exact zrr_none
    · exact zrr_none
  · exact zrr_none
theorem zrr_c1 {fr lo k na : Nat} {pc : Nat} {ls st : List zV} {L : zY} {m : zM} (h : zfr k + 1 ≤ fr ∧ 8 + (zmx k + 11) + zlo k ≤ lo ∧ na ≤ st.length ∧ zsum (st.drop na) ≤ 8 ∧ zsum (st.take na) ≤ zmx k → P (.inl (k, (st.take na).reverse, st.drop na, pc))) : zrr P (zcall fr lo (k, na, 1) pc ls st L m) := by
  simp only [zcall]
  split
  · rename_i hc
    exact zrr_r (h hc)
  · exact zrr_none
theorem zrr_c2 {fr lo k na : Nat} {pc : Nat} {ls st : List zV} {L : zY} {m : zM} (h : ∀ a t, (st.take na).reverse = .inr (.inr (.inl a)) :: t → 2 ≤ a → zfr k + 1 ≤ fr ∧ 8 + (zmx k + 11) + zlo k ≤ lo ∧ na ≤ st.length ∧ zsum (st.drop na) ≤ 8 ∧ zsum (st.take na) ≤ zmx k → P (.inl (k, .inr (.inr (.inl a)) :: t, st.drop na, pc))) : zrr P (zcall fr lo (k, na, 2) pc ls st L m) := by
  simp only [zcall]
  split
  · rename_i hc
    split
    · rename_i a t hq
      split
      · rename_i hz
        exact zrr_r (h a t hq hz hc)
      · exact zrr_none
    · exact zrr_none
  · exact zrr_none
theorem zrr_c3 {fr lo k na : Nat} {pc : Nat} {ls st : List zV} {L : zY} {m : zM} : zrr P (zcall fr lo (k, na, 3) pc ls st L m) := by
  simp only [zcall]
  split
  · split
    · exact zrr_go
    · exact zrr_none
  · exact zrr_none
theorem zrr_c4 {fr lo k na : Nat} {pc : Nat} {ls st : List zV} {L : zY} {m : zM} (h : ∀ a t, (st.take na).reverse = .inr (.inr (.inr (0, a))) :: t → zfr k + 1 ≤ fr ∧ 8 + (zmx k + 11) + zlo k ≤ lo ∧ na ≤ st.length ∧ zsum (st.drop na) ≤ 8 ∧ zsum (st.take na) ≤ zmx k → P (.inl (k, .inr (.inr (.inr (0, a))) :: t, st.drop na, pc))) : zrr P (zcall fr lo (k, na, 4) pc ls st L m) := by
  simp only [zcall]
  split
  · rename_i hc
    split
    · rename_i a t hq
      exact zrr_r (h a t hq hc)
    · exact zrr_none
  · exact zrr_none
theorem zrr_c5 {fr lo k na : Nat} {pc : Nat} {ls st : List zV} {L : zY} {m : zM} : zrr P (zcall fr lo (k, na, 5) pc ls st L m) := by
  simp only [zcall]
  split
  · exact zrr_bind fun _ => zrr_go
  · exact zrr_none
theorem zrr_c6 {fr lo k na : Nat} {pc : Nat} {ls st : List zV} {L : zY} {m : zM} : zrr P (zcall fr lo (k, na, 6) pc ls st L m) := by
  simp only [zcall]
  split
  · split
    · exact zrr_go
    · exact zrr_none
  · exact zrr_none
def zPi (ci rk fr lo : Nat) (i : Instr) (n pc : Nat) (st : List zV) (L : zY) : (Nat × List zV × List zV × Nat) ⊕ Option zV → Prop := fun x => match x with
  | .inl q => zcsp ci fr lo i n pc st L q
  | .inr r => zrsp rk i st r
set_option maxHeartbeats 4000000 in
theorem zrr_ex {ci rk fr lo n pc : Nat} {i : Instr} {ls st : List zV} {L : zY} {m : zM} : zrr (zPi ci rk fr lo i n pc st L) (zex ci rk fr lo i n pc ls st L m) := by
  cases i
  case invokevirtual j =>
    unfold zex; dsimp only
    split
    · rename_i q a hv
      exact zrr_c0 fun b t h1 h2 h3 => ⟨j, a, 0, Or.inl ⟨rfl, Or.inl rfl⟩, hv, h3.1, h3.2.1, h3.2.2.1, h3.2.2.2.1, h3.2.2.2.2, h1.symm, rfl, rfl, fun _ => ⟨b, t, rfl, h2⟩, (fun h => absurd h (by decide)), (fun h => absurd h (by decide))⟩
    · rename_i q a hv
      exact zrr_c4 fun b t h1 h3 => ⟨j, a, 4, Or.inl ⟨rfl, Or.inr rfl⟩, hv, h3.1, h3.2.1, h3.2.2.1, h3.2.2.2.1, h3.2.2.2.2, h1.symm, rfl, rfl, (fun h => absurd h (by decide)), (fun h => absurd h (by decide)), fun _ => ⟨b, t, rfl⟩⟩
    · exact zrr_none
  case invokestatic j =>
    unfold zex; dsimp only
    split
    · rename_i q a hv
      exact zrr_c1 fun h3 => ⟨j, a, 1, Or.inr (Or.inl ⟨rfl, rfl⟩), hv, h3.1, h3.2.1, h3.2.2.1, h3.2.2.2.1, h3.2.2.2.2, rfl, rfl, rfl, (fun h => absurd h (by decide)), (fun h => absurd h (by decide)), (fun h => absurd h (by decide))⟩
    · exact zrr_c5
    · exact zrr_c6
    · exact zrr_none
  case invokespecial j =>
    unfold zex; dsimp only
    split
    · rename_i q a hv
      exact zrr_c2 fun b t h1 h2 h3 => ⟨j, a, 2, Or.inr (Or.inr ⟨rfl, rfl⟩), hv, h3.1, h3.2.1, h3.2.2.1, h3.2.2.2.1, h3.2.2.2.2, h1.symm, rfl, rfl, (fun h => absurd h (by decide)), fun _ => ⟨b, t, rfl, h2⟩, (fun h => absurd h (by decide))⟩
    · exact zrr_c3
    · exact zrr_none
  case ireturn =>
    unfold zex; dsimp only
    split
    · rename_i x
      split
      · rename_i hc
        exact zrr_r (Or.inl ⟨rfl, x, rfl, rfl, hc⟩)
      · exact zrr_none
    · exact zrr_none
  case lreturn =>
    unfold zex; dsimp only
    split
    · rename_i x
      split
      · rename_i hc
        exact zrr_r (Or.inr (Or.inl ⟨rfl, hc, x, rfl, rfl⟩))
      · exact zrr_none
    · exact zrr_none
  case areturn =>
    unfold zex; dsimp only
    split
    · rename_i x
      split
      · rename_i hc
        exact zrr_r (Or.inr (Or.inr (Or.inl ⟨rfl, hc, x, rfl, rfl⟩)))
      · exact zrr_none
    · exact zrr_none
  case return_ =>
    unfold zex; dsimp only
    split
    · split
      · rename_i hc
        exact zrr_r (Or.inr (Or.inr (Or.inr ⟨rfl, hc, rfl, rfl⟩)))
      · exact zrr_none
    · exact zrr_none
  all_goals (unfold zex; dsimp only)
  all_goals first
    | exact zrr_none
    | exact zrr_go
    | exact zrr_ld
    | exact zrr_sto
    | exact zrr_bin
    | exact zrr_jmp
    | skip
  all_goals (repeat' (first
    | exact zrr_none
    | exact zrr_go
    | exact zrr_jmp
    | exact zrr_ld
    | exact zrr_sto
    | exact zrr_bin
    | exact zrr_gf
    | exact zrr_pf
    | exact zrr_bind fun _ => zrr_go
    | exact zrr_cond zrr_jmp zrr_go
    | (rename_i heq; cases heq; done)
    | split))
end ZK1
section ZK2
theorem z_revcons {α : Type} {l t : List α} {x : α} (h : l.reverse = x :: t) : l = t.reverse ++ [x] := by
  have := congrArg List.reverse h
  rw [List.reverse_reverse, List.reverse_cons] at this
  exact this
theorem z_room {c a b d r : Nat} (h1 : c ≤ a) (h2 : a ≤ b) (h3 : b ≤ d) (h4 : d - c ≤ r) : a - c + (b - a) ≤ r := by omega
theorem zsum_map (st : List zV) : (st.reverse.map zcat).sum = zsum st := by
  unfold zsum
  rw [List.map_reverse, List.sum_reverse]
set_option maxHeartbeats 4000000 in
theorem z_sound (l : Launch) (E : zE) (D : va_G) (cA : Nat → ClassId) (H0 : Heap) (scr : Cell) : ∀ n, zSnd l E D cA H0 scr n := by
  intro n
  induction n with
  | zero => intro mi pc ls st L m r L' m' h; cases h
  | succ n ih =>
    intro mi pc ls st L m r L' m' hev hmi p e R s mt args below meth c Q H locs lc sc c0 s0 hx hb hml hown hK hnm hRf hRl hc0 hs0 hR hT hl hs hh ho hend
    unfold zev at hev
    cases hi : zins mi pc with
    | none =>
      have : zstep mi pc ls st L m = none := by unfold zstep; rw [hi]
      rw [this] at hev
      cases hev
    | some q =>
      obtain ⟨i, len⟩ := q
      have hst : zstep mi pc ls st L m = zex (zcl mi) (zrk mi) (zfr mi) (zlo mi) i len pc ls st L m := by unfold zstep; rw [hi]
      rw [hst] at hev
      obtain ⟨hd, hlen, hidx, hfo⟩ := zdk mi hmi (pc, i, len) (zlk_mem hi)
      have hd : decode (zmd mi).2.1 pc = .ok (i, len) := hd
      have hlen : zlen i = 0 ∨ len = zlen i := hlen
      have hidx : zidx i < 10000 := hidx
      have hfo : zfinok (zcl mi) (zmd mi).1.name i = true := hfo
      have hrr := zrr_ex (ci := zcl mi) (rk := zrk mi) (fr := zfr mi) (lo := zlo mi) (n := len) (pc := pc) (i := i) (ls := ls) (st := st) (L := L) (m := m)
      cases hz : zex (zcl mi) (zrk mi) (zfr mi) (zlo mi) i len pc ls st L m with
      | none => rw [hz] at hev; cases hev
      | some x =>
        rw [hz] at hev hrr
        rcases x with ⟨pc1, ls1, st1, L1, m1⟩ | ⟨k, as, st1, pc1⟩ | r1
        · have hm1 := zmon_ev n mi pc1 ls1 st1 L1 m1 r L' m' hev
          have hm0 := zmon_ex (ci := zcl mi) (rk := zrk mi) (fr := zfr mi) (lo := zlo mi) (n := len) (pc := pc) (i := i) (ls := ls) (st := st) (L := L) (m := m) _ _ _ _ _ hz
          refine zx_step hx hb hml hown hK hd hlen hidx ?_ hRf hRl hc0 hs0 (L' := L1) ⟨by omega, by omega⟩ hT hl hs hh ho hz (fun H1 locs1 lc1 sc1 g1 g2 g3 g4 => ih mi pc1 ls1 st1 L1 m1 r L' m' hev hmi p e R s mt args below meth c Q H1 locs1 lc1 sc1 c0 s0 hx hb hml hown hK hnm hRf hRl (by omega) (by omega) hR hT g1 g2 g3 g4 hend)
          intro k t f kd hk hf hfn
          subst hk
          unfold zfinok at hfo
          dsimp only at hfo
          rw [hf] at hfo
          simp only [decide_eq_true_eq] at hfo
          obtain ⟨h1, h2⟩ := hfo hfn
          exact ⟨by rw [hnm (fun q => by subst q; exact absurd h1 (by decide +kernel))]; exact h1, h2⟩
        · obtain ⟨idx, na, kd, hins, hcal, hf1, hf2, hna, hsum8, hsumx, has, hst1, hpc1, hk0, hk2, hk4⟩ := hrr _ rfl
          dsimp only at hcal hf1 hf2 hsumx has hst1 hpc1 hk0 hk2 hk4
          have hlen3 : len = 3 := by rcases hins with ⟨rfl, -⟩ | ⟨rfl, -⟩ | ⟨rfl, -⟩ <;> simpa [zlen] using hlen
          subst hlen3
          have hidx2 : idx < 10000 := by rcases hins with ⟨rfl, -⟩ | ⟨rfl, -⟩ | ⟨rfl, -⟩ <;> exact hidx
          dsimp only at hev
          cases hev1 : zev n k 0 (zent (zmx k) as) [] L m with
          | none => rw [hev1] at hev; cases hev
          | some q1 =>
            obtain ⟨r1, L1, m1⟩ := q1
            rw [hev1] at hev
            dsimp only at hev
            have hm1 := zmon_ev _ _ _ _ _ _ _ _ _ _ hev1
            have hm2 := zmon_ev _ _ _ _ _ _ _ _ _ _ hev
            -- the row of the call
            have hrow := zcchk_all _ (zlk_mem hcal)
            have e1 : zkey (zcl mi) idx / 10000 = zcl mi := by unfold zkey; omega
            have e2 : zkey (zcl mi) idx % 10000 = idx := by unfold zkey; omega
            unfold zcchk at hrow
            split at hrow
            case h_2 => cases hrow
            rename_i nest pl hp
            simp only [e1, e2, decide_eq_true_eq] at hrow
            have hkd : kd = 0 ∨ kd = 4 ∨ kd = 1 ∨ kd = 2 := by rcases hins with ⟨-, h | h⟩ | ⟨-, h⟩ | ⟨-, h⟩ <;> omega
            rcases hrow with ⟨h3, -⟩ | ⟨h3, -⟩ | ⟨h3, -⟩ | ⟨-, -, -, hk268, hk258, hlink, hparm, hna1, hmk0, hstr, hobj⟩
            · omega
            · omega
            · omega
            obtain ⟨hmk, -⟩ := zmchk_all k hk268 hk258
            unfold zmchk at hmk
            generalize hq5 : zmpl.getD k (9, 0, 0, 0, 0) = q5 at hmk hmk0
            obtain ⟨kd5, p1, p2, p3, p4⟩ := q5
            dsimp only at hmk0
            simp only [decide_eq_true_eq] at hmk
            obtain ⟨hw1, hw2, hw3, hw4, -, hmh1, hmh2, -, hini⟩ := hmk
            -- the values
            have hac : zsr E as (sc.take na).reverse := by rw [has]; exact zsr_rev (zsr_take na hs)
            have hrest : zsr E st1 (sc.drop na) := by rw [hst1]; exact zsr_drop na hs
            have hsumr : ((sc.drop na).map fun v => v.category).sum ≤ 8 := by rw [zsr_sum hrest, hst1]; exact hsum8
            have hsc : sc = (sc.take na).reverse.reverse ++ sc.drop na := by rw [List.reverse_reverse, List.take_append_drop]
            have hscl : sc.length = st.length := zsr_len hs
            have hacl : (sc.take na).reverse.length = na := by rw [List.length_reverse, List.length_take]; omega
            have hmet := z_met ih hk268 hk258 (as := as) (ac := (sc.take na).reverse) (by rw [has, zsum_map]; exact hsumx) hev1 hac
            generalize hacv : (sc.take na).reverse = ac at hac hsc hacl hmet
            have hPc : ∀ U : State, U.heap = H → s.WarmedH U.vm → zPc E D cA H0 scr L m ac ac.toArray U := fun U hU hW => ⟨rfl, by rw [hU]; exact hh, hK.warm hW⟩
            have hwsm : ∀ w ∈ zwsm k, ∀ (a' : Array Value) (U : State), s.WarmedH U.vm → w.before a' U = true := fun w hw a' U hW => by
              rw [zwsm, List.mem_singleton] at hw
              subst hw
              exact zgw_warm (by rfl) hW (hK.2.1 _ (List.mem_of_getElem? hw4) (by rfl))
            have hcodeb : (Cond.code (zmd k).1 (zmd k).2.1 (zmx k) (zmd k).2.2).before args s = true := hK.use p4 hw4 (by rfl)
            have hinib : (Cond.initialized (zmd k).1.cls).before args s = true := hK.use p3 hw3 (by rfl)
            have hcB : ∀ nn, (parseMethodDescriptor (zmd k).1.desc).map (fun d => d.parameters.length) = some nn → ∀ sig, parseMethodDescriptor (zmd k).1.desc = some sig → nn = sig.parameters.length := fun nn h sig hsig => by
              rw [hsig] at h
              exact (Option.some.inj h).symm
            have fin : va_Run p l e R s mt args below meth c H locs (zcells L - c0) (zslots L - s0) (zcells L1 - zcells L) (zslots L1 - zslots L) (F0 mt pc lc sc) (sc.drop na) (zQc E D cA H0 scr L1 m1 r1 ac.toArray) (fun q => E.1 ≤ q) → W p l e R s mt args below meth c H locs (zcells L - c0) (zslots L - s0) Q (F0 mt pc lc sc) := by
              intro run T hTT X
              obtain ⟨v, st₀, t, T', Lc, h0, X', hL, f1, f2, ⟨v', hv, hrv, hh1⟩, stp⟩ := run T hTT X
              cases hv
              have hv2 : zsr E (zpu r1 st1) (v.toList ++ sc.drop na) := by
                cases r1 with
                | none =>
                  cases v with
                  | none => exact hrest
                  | some b => exact hrv.elim
                | some a =>
                  cases v with
                  | none => exact hrv.elim
                  | some b => exact ⟨hrv, hrest⟩
              have kk := ih mi pc1 ls (zpu r1 st1) L1 m1 r L' m' hev hmi p e R s mt args below meth c Q T'.heap (locs ++ Lc) lc (v.toList ++ sc.drop na) c0 s0 hx hb hml hown hK hnm hRf hRl (by omega) (by omega) hR hT hl hv2 (by rw [f1]; exact hh1) (fun q hq => (List.mem_append.mp hq).elim (ho q) (hL q)) hend
              have ec : zcells L - c0 + (zcells L1 - zcells L) = zcells L1 - c0 := by omega
              have es : zslots L - s0 + (zslots L1 - zslots L) = zslots L1 - s0 := by omega
              rw [ec, es] at X'
              obtain ⟨tt, a1, b1⟩ := kk T' rfl X'
              rw [hpc1] at a1
              exact ⟨tt, stp tt a1, b1⟩
            have hroom : zcells L - c0 + (zcells L1 - zcells L) ≤ R.cells ∧ zslots L - s0 + (zslots L1 - zslots L) ≤ R.slots := ⟨z_room hc0 hm1.1 hm2.1 hR.1, z_room hs0 hm1.2 hm2.2 hR.2⟩
            have hsz : lc.size = c.maxLocals := by rw [hml]; exact hl.1
            have hfx : CallFix p mt c (zmd mi).2.1 c.maxLocals s args ([] : List Cond) (zown mi) := ⟨hx, hb, rfl, hown, fun w hw => by cases hw⟩
            have hbase : ∀ nn, (parseMethodDescriptor (zmd k).1.desc).map (fun d => d.parameters.length) = some nn → (Cond.methodLink (zown mi) idx (zmd k).1).before args s = true → CallB R s args (zown mi) idx (zmd k).1 (zmd k).2.1 (zmx k) (zmd k).2.2 (zwsm k) ({ frames := zfr k, cells := zcells L1 - zcells L, slots := zslots L1 - zslots L, locals := zlo k }) (zcells L1 - zcells L) (zslots L1 - zslots L) nn := fun nn h hlk =>
              ⟨rfl, rfl, by show zfr k + 1 ≤ R.frames; omega, by show 8 + (zmx k + 11) + zlo k ≤ R.locals; omega, hwsm, List.mem_singleton.mpr rfl, hcodeb, hinib, ⟨hmh1, hmh2⟩, hcB nn h, hlk⟩
            have hbaseN : ∀ nn, (parseMethodDescriptor (zmd k).1.desc).map (fun d => d.parameters.length) = some nn → (Cond.methodLinkNest (zown mi) idx (zmd k).1 "StolenFinals").before args s = true → va_CN R s args (zown mi) idx (zmd k).1 "StolenFinals" (zmd k).2.1 (zmx k) (zmd k).2.2 (zwsm k) ({ frames := zfr k, cells := zcells L1 - zcells L, slots := zslots L1 - zslots L, locals := zlo k }) (zcells L1 - zcells L) (zslots L1 - zslots L) nn := fun nn h hlk =>
              ⟨⟨rfl, rfl, by show zfr k + 1 ≤ R.frames; omega, by show 8 + (zmx k + 11) + zlo k ≤ R.locals; omega, hwsm, List.mem_singleton.mpr rfl⟩, hcodeb, hinib, ⟨hmh1, hmh2⟩, hcB nn h, hlk⟩
            have hlinkU : nest = false → (Cond.methodLink (zown mi) idx (zmd k).1).before args s = true := fun hn => by
              rw [hn, if_neg (by decide)] at hlink
              exact hK.use pl hlink (by rfl)
            have hlinkN : nest = true → (Cond.methodLinkNest (zown mi) idx (zmd k).1 "StolenFinals").before args s = true := fun hn => by
              rw [hn, if_pos rfl] at hlink
              exact hK.use pl hlink (by rfl)
            rcases hins with ⟨rfl, hkdv⟩ | ⟨rfl, rfl⟩ | ⟨rfl, rfl⟩
            · -- on an object
              have hkd50 : kd5 = 0 := by rcases hkdv with rfl | rfl <;> simpa using hmk0
              subst hkd50
              rw [if_neg (by decide)] at hw1
              have hinst : (Cond.instanceMethod (zmd k).1).before args s = true := hK.use p1 hw1 (by rfl)
              have hsel : (Cond.selects (zmd k).1.cls (zmd k).1 (zmd k).1).before args s = true := hK.use p2 (hw2 rfl) (by rfl)
              have hpn : (parseMethodDescriptor (zmd k).1.desc).map (fun d => d.parameters.length) = some (na - 1) := by
                rw [if_neg (by rcases hkdv with rfl | rfl <;> decide)] at hparm; exact hparm
              have hrecv : ∃ (b : Addr) (As : List Value), ac = .ref b :: As ∧ ∃ cellB : Cell, H[b]? = some cellB ∧ cellB.vm.isStatics = false ∧ s.vm.findClass (zmd k).1.cls = some cellB.cls := by
                rcases hkdv with rfl | rfl
                · obtain ⟨a, t, ha, hta⟩ := hk0 rfl
                  obtain ⟨hob1, hob2⟩ := hobj rfl
                  rw [ha] at hac
                  obtain ⟨w, As, hac2, hw, -⟩ := zsr_cons hac
                  have h2 : 2 ≤ a := zhr_two hh (by omega) (by omega)
                  have hw : w = zad E a := hw
                  rw [zad_two h2] at hw
                  obtain ⟨c1, c2⟩ := zhr_cell hh (by omega) h2
                  rw [hta] at c1 c2
                  rcases c2 with ⟨-, -, -, -, cell, q1, q2, q3, -⟩ | ⟨d1, -⟩
                  · refine ⟨_, As, by rw [hac2, hw], cell, q1, by rw [q3]; rfl, ?_⟩
                    rw [hob2, q2]
                    exact (hK.1.1 (zcl k) _ (zcT_get hob1)).2.1
                  · omega
                · obtain ⟨j, t, ha⟩ := hk4 rfl
                  rw [ha] at hac
                  obtain ⟨w, As, hac2, ⟨hj, hw⟩, -⟩ := zsr_cons hac
                  obtain ⟨-, -, -, -, -, -, -, -, -, hss, -⟩ := id hK
                  obtain ⟨cell, g1, g2, g3, -⟩ := (zStr_at hss hj).1.kept (z_keep hK hh)
                  exact ⟨_, As, by rw [hac2, hw], cell, g1, g2, by rw [hstr rfl]; exact g3⟩
              obtain ⟨b, As, hacb, cellB, hcb1, hcb2, hcb3⟩ := hrecv
              subst hacb
              have hAs : As.length = na - 1 := by rw [List.length_cons] at hacl; omega
              have hstk : sc = As.reverse ++ .ref b :: sc.drop na := by
                rw [List.reverse_cons, List.append_assoc] at hsc
                exact hsc
              have hpre : PreV s H (zmd k).1.cls b (zPc E D cA H0 scr L m (.ref b :: As)) As := ⟨zPc_blind, ⟨cellB, hcb1, hcb2, hcb3⟩, hPc⟩
              cases nest with
              | false => exact fin (va_runV (g := F0 mt pc lc sc) hfx hmet ⟨hbase _ hpn (hlinkU rfl), hinst, hsel⟩ hpre rfl hAs hsz hstk (lv_room hsumr) hd hroom)
              | true => exact fin (va_runVN (g := F0 mt pc lc sc) hfx hmet ⟨hbaseN _ hpn (hlinkN rfl), hinst, hsel⟩ hpre rfl hAs hsz hstk (lv_room hsumr) hd hroom)
            · -- a static one
              have hkd51 : kd5 = 1 := by simpa using hmk0
              subst hkd51
              rw [if_pos rfl] at hw1
              have hstat : (Cond.static (zmd k).1).before args s = true := hK.use p1 hw1 (by rfl)
              have hpn : (parseMethodDescriptor (zmd k).1.desc).map (fun d => d.parameters.length) = some na := by
                rw [if_pos rfl] at hparm; exact hparm
              have hpre : PreS s H (zPc E D cA H0 scr L m ac) ac := ⟨zPc_blind, hPc⟩
              cases nest with
              | false => exact fin (va_runS (g := F0 mt pc lc sc) hfx hmet ⟨hbase _ hpn (hlinkU rfl), hstat⟩ hpre rfl hacl hsz hsc (lv_room hsumr) hd hroom)
              | true => exact fin (va_runSN (g := F0 mt pc lc sc) hfx hmet ⟨hbaseN _ hpn (hlinkN rfl), hstat, trivial⟩ hpre rfl hacl hsz hsc (lv_room hsumr) hd hroom)
            · -- a constructor
              have hkd52 : kd5 = 2 := by simpa using hmk0
              subst hkd52
              rw [if_neg (by decide)] at hw1
              have hinst : (Cond.instanceMethod (zmd k).1).before args s = true := hK.use p1 hw1 (by rfl)
              obtain ⟨hin1, hin2⟩ := hini rfl
              have hpn : (parseMethodDescriptor (zmd k).1.desc).map (fun d => d.parameters.length) = some (na - 1) := by
                rw [if_neg (by decide)] at hparm; exact hparm
              obtain ⟨a, t, ha, h2⟩ := hk2 rfl
              rw [ha] at hac
              obtain ⟨w, As, hac2, hw, -⟩ := zsr_cons hac
              have hw : w = zad E a := hw
              rw [zad_two h2] at hw
              subst hw
              subst hac2
              have hAs : As.length = na - 1 := by rw [List.length_cons] at hacl; omega
              have hstk : sc = As.reverse ++ .ref (E.1 + (a - 2)) :: sc.drop na := by
                rw [List.reverse_cons, List.append_assoc] at hsc
                exact hsc
              have hpre : PreS s H (zPc E D cA H0 scr L m (.ref (E.1 + (a - 2)) :: As)) (.ref (E.1 + (a - 2)) :: As) := ⟨zPc_blind, hPc⟩
              have hb0 := hbase _ hpn
              have hbN0 := hbaseN _ hpn
              rw [hin2] at hb0 hbN0
              cases nest with
              | false => exact fin (va_runI (g := F0 mt pc lc sc) hfx hmet ⟨hb0 (hlinkU rfl), hin1, hinst⟩ hpre rfl hAs hsz hstk (lv_room hsumr) hd hroom)
              | true => exact fin (va_runIN (g := F0 mt pc lc sc) hfx hmet ⟨hbN0 (hlinkN rfl), hin1, hinst⟩ hpre rfl hAs hsz hstk (lv_room hsumr) hd hroom)
        · have hrs : zrsp (zrk mi) i st r1 := hrr _ rfl
          cases hev
          have hl1 : len = 1 := by rcases hrs with ⟨rfl, -⟩ | ⟨rfl, -⟩ | ⟨rfl, -⟩ | ⟨rfl, -⟩ <;> simpa [zlen] using hlen
          subst hl1
          refine hend pc i lc sc H locs hd ?_ hh ho
          rcases hrs with ⟨rfl, x, rfl, rfl, hc⟩ | ⟨rfl, hc, x, rfl, rfl⟩ | ⟨rfl, hc, a, rfl, rfl⟩ | ⟨rfl, hc, rfl, rfl⟩
          · obtain ⟨w, b, rfl, ⟨v, rfl, rfl⟩, hs1⟩ := zsr_cons hs
            rw [zsr_nil hs1]
            exact Or.inl ⟨rfl, _, v, rfl, rfl, rfl, hc⟩
          · obtain ⟨w, b, rfl, ⟨v, rfl, rfl⟩, hs1⟩ := zsr_cons hs
            rw [zsr_nil hs1]
            exact Or.inr (Or.inl ⟨rfl, hc, _, v, rfl, rfl, rfl⟩)
          · obtain ⟨w, b, rfl, hw, hs1⟩ := zsr_cons hs
            rw [zsr_nil hs1]
            exact Or.inr (Or.inr (Or.inl ⟨rfl, hc, a, rfl, by rw [show w = zad E a from hw]⟩))
          · rw [zsr_nil hs]
            exact Or.inr (Or.inr (Or.inr ⟨rfl, hc, rfl, rfl⟩))
end ZK2
