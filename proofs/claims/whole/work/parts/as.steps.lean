section ZT1
variable {p : Program} {l : Launch} {e : Env} {R : Room} {s : State} {mt : MethodId} {args : Array Value} {below : List Frame} {meth : Method} {c : Code} {Q : State → Prop} {E : zE} {D : va_G} {cA : Nat → ClassId} {H0 : Heap} {scr : Cell} {L : zY} {m : zM} {mi : Nat}
/-- a frame of the method mi -/
def yyC (p : Program) (R : Room) (s : State) (mt : MethodId) (meth : Method) (c : Code) (E : zE) (D : va_G) (cA : Nat → ClassId) (H0 : Heap) (scr : Cell) (mi : Nat) : Prop :=
  p.tables.exec = Jvm.exec ∧ c.code = (zmd mi).2.1 ∧ c.maxLocals = zmx mi ∧ s.vm.findClass (zown mi) = some mt.cls ∧ zK E D cA H0 scr s ∧ meth.name = (zmd mi).1.name ∧ mi < 268 ∧ mi ≠ 258 ∧ zfr mi ≤ R.frames ∧ zlo mi ≤ R.locals
/-- the frame goes on from pc, the machine's memory being m -/
def yyW (p : Program) (l : Launch) (e : Env) (R : Room) (s : State) (mt : MethodId) (args : Array Value) (below : List Frame) (meth : Method) (c : Code) (Q : State → Prop) (E : zE) (D : va_G) (cA : Nat → ClassId) (H0 : Heap) (scr : Cell) (mi : Nat) (L : zY) (m : zM) (pc : Nat) (ls st : List zV) : Prop :=
  ∀ (H : Heap) (locs : List Loc) (lc : Array Slot) (sc : List Value), zlr E (zmx mi) ls lc → zsr E st sc → zhr E D cA H0 scr L m H → (∀ q ∈ locs, E.1 ≤ q.base) → W p l e R s mt args below meth c H locs (zcells L - zcells L) (zslots L - zslots L) Q (F0 mt pc lc sc)
theorem yy_step {pc pc1 : Nat} {ls st ls1 st1 : List zV} (C : yyC p R s mt meth c E D cA H0 scr mi) (hz : zstep mi pc ls st L m = some (.inl (pc1, ls1, st1, L, m))) (k : yyW p l e R s mt args below meth c Q E D cA H0 scr mi L m pc1 ls1 st1) : yyW p l e R s mt args below meth c Q E D cA H0 scr mi L m pc ls st := by
  obtain ⟨hx, hb, hml, hown, hK, hnm, hmi, hne, hRf, hRl⟩ := C
  intro H locs lc sc hl hs hh ho
  cases hi : zins mi pc with
  | none =>
    have : zstep mi pc ls st L m = none := by unfold zstep; rw [hi]
    rw [this] at hz
    cases hz
  | some q =>
    obtain ⟨i, len⟩ := q
    rw [zstep_eq hi] at hz
    obtain ⟨hd, hlen, hidx, hfo⟩ := zdk mi hmi (pc, i, len) (zlk_mem hi)
    have hd : decode (zmd mi).2.1 pc = .ok (i, len) := hd
    have hlen : zlen i = 0 ∨ len = zlen i := hlen
    have hidx : zidx i < 10000 := hidx
    have hfo : zfinok (zcl mi) (zmd mi).1.name i = true := hfo
    refine zx_step hx hb hml hown hK hd hlen hidx ?_ hRf hRl (Nat.le_refl _) (Nat.le_refl _) ⟨by rw [Nat.sub_self]; exact Nat.zero_le _, by rw [Nat.sub_self]; exact Nat.zero_le _⟩ (zTold_vac (zcl_law mi hmi hne)) hl hs hh ho hz (fun H1 locs1 lc1 sc1 g1 g2 g3 g4 => k H1 locs1 lc1 sc1 g1 g2 g3 g4)
    intro k9 t f kd hk hf hfn
    subst hk
    unfold zfinok at hfo
    dsimp only at hfo
    rw [hf] at hfo
    simp only [decide_eq_true_eq] at hfo
    obtain ⟨h1, h2⟩ := hfo hfn
    exact ⟨by rw [hnm]; exact h1, h2⟩
set_option maxHeartbeats 4000000 in
theorem yy_call {pc pc1 k n : Nat} {ls st st1 as : List zV} {r1 : Option zV} (C : yyC p R s mt meth c E D cA H0 scr mi) (hz : zstep mi pc ls st L m = some (.inr (.inl (k, as, st1, pc1)))) (hev1 : zev n k 0 (zent (zmx k) as) [] L m = some (r1, L, m)) (k9 : yyW p l e R s mt args below meth c Q E D cA H0 scr mi L m pc1 ls (zpu r1 st1)) : yyW p l e R s mt args below meth c Q E D cA H0 scr mi L m pc ls st := by
  obtain ⟨hx, hb, hml, hown, hK, hnm, hmi, hne, hRf, hRl⟩ := C
  intro H locs lc sc hl hs hh ho
  cases hi : zins mi pc with
  | none =>
    have : zstep mi pc ls st L m = none := by unfold zstep; rw [hi]
    rw [this] at hz
    cases hz
  | some q =>
  obtain ⟨i, len⟩ := q
  rw [zstep_eq hi] at hz
  obtain ⟨hd, hlen, hidx, hfo⟩ := zdk mi hmi (pc, i, len) (zlk_mem hi)
  have hd : decode (zmd mi).2.1 pc = .ok (i, len) := hd
  have hlen : zlen i = 0 ∨ len = zlen i := hlen
  have hidx : zidx i < 10000 := hidx
  have hrr := zrr_ex (ci := zcl mi) (rk := zrk mi) (fr := zfr mi) (lo := zlo mi) (n := len) (pc := pc) (i := i) (ls := ls) (st := st) (L := L) (m := m)
  rw [hz] at hrr
  obtain ⟨idx, na, kd, hins, hcal, hf1, hf2, hna, hsum8, hsumx, has, hst1, hpc1, hk0, hk2, hk4⟩ := hrr _ rfl
  dsimp only at hcal hf1 hf2 hsumx has hst1 hpc1 hk0 hk2 hk4
  have hlen3 : len = 3 := by rcases hins with ⟨rfl, -⟩ | ⟨rfl, -⟩ | ⟨rfl, -⟩ <;> simpa [zlen] using hlen
  subst hlen3
  have hidx2 : idx < 10000 := by rcases hins with ⟨rfl, -⟩ | ⟨rfl, -⟩ | ⟨rfl, -⟩ <;> exact hidx
  -- the row of the call
  have hrow := zcchk_all _ (zlk_mem hcal)
  have e1 : zkey (zcl mi) idx / 10000 = zcl mi := by unfold zkey; omega
  have e2 : zkey (zcl mi) idx % 10000 = idx := by unfold zkey; omega
  unfold zcchk at hrow
  split at hrow
  case h_2 => cases hrow
  rename_i nest pl hp
  simp only [e1, e2, decide_eq_true_eq] at hrow
  have hkd : kd = 0 ∨ kd = 4 ∨ kd = 1 ∨ kd = 2 := by rcases hins with ⟨-, h | h⟩ | ⟨-, h⟩ | ⟨-, h⟩ <;> omega
  rcases hrow with ⟨h3, -⟩ | ⟨h3, -⟩ | ⟨h3, -⟩ | ⟨-, -, -, hk268, hk258, hlink, hparm, hna1, hmk0, hstr, hobj⟩
  · omega
  · omega
  · omega
  obtain ⟨hmk, -⟩ := zmchk_all k hk268 hk258
  unfold zmchk at hmk
  generalize hq5 : zmpl.getD k (9, 0, 0, 0, 0) = q5 at hmk hmk0
  obtain ⟨kd5, p1, p2, p3, p4⟩ := q5
  dsimp only at hmk0
  simp only [decide_eq_true_eq] at hmk
  obtain ⟨hw1, hw2, hw3, hw4, -, hmh1, hmh2, -, hini⟩ := hmk
  -- the values
  have hac : zsr E as (sc.take na).reverse := by rw [has]; exact zsr_rev (zsr_take na hs)
  have hrest : zsr E st1 (sc.drop na) := by rw [hst1]; exact zsr_drop na hs
  have hsumr : ((sc.drop na).map fun v => v.category).sum ≤ 8 := by rw [zsr_sum hrest, hst1]; exact hsum8
  have hsc : sc = (sc.take na).reverse.reverse ++ sc.drop na := by rw [List.reverse_reverse, List.take_append_drop]
  have hscl : sc.length = st.length := zsr_len hs
  have hacl : (sc.take na).reverse.length = na := by rw [List.length_reverse, List.length_take]; omega
  have hmet := z_met (z_sound l E D cA H0 scr n) hk268 hk258 (as := as) (ac := (sc.take na).reverse) (by rw [has, zsum_map]; exact hsumx) hev1 hac
  generalize hacv : (sc.take na).reverse = ac at hac hsc hacl hmet
  have hPc : ∀ U : State, U.heap = H → s.WarmedH U.vm → zPc E D cA H0 scr L m ac ac.toArray U := fun U hU hW => ⟨rfl, by rw [hU]; exact hh, hK.warm hW⟩
  have hwsm : ∀ w ∈ zwsm k, ∀ (a' : Array Value) (U : State), s.WarmedH U.vm → w.before a' U = true := fun w hw a' U hW => by
    rw [zwsm, List.mem_singleton] at hw
    subst hw
    exact zgw_warm (by rfl) hW (hK.2.1 _ (List.mem_of_getElem? hw4) (by rfl))
  have hcodeb : (Cond.code (zmd k).1 (zmd k).2.1 (zmx k) (zmd k).2.2).before args s = true := hK.use p4 hw4 (by rfl)
  have hinib : (Cond.initialized (zmd k).1.cls).before args s = true := hK.use p3 hw3 (by rfl)
  have hcB : ∀ nn, (parseMethodDescriptor (zmd k).1.desc).map (fun d => d.parameters.length) = some nn → ∀ sig, parseMethodDescriptor (zmd k).1.desc = some sig → nn = sig.parameters.length := fun nn h sig hsig => by
    rw [hsig] at h
    exact (Option.some.inj h).symm
  have fin : va_Run p l e R s mt args below meth c H locs (zcells L - zcells L) (zslots L - zslots L) (zcells L - zcells L) (zslots L - zslots L) (F0 mt pc lc sc) (sc.drop na) (zQc E D cA H0 scr L m r1 ac.toArray) (fun q => E.1 ≤ q) → W p l e R s mt args below meth c H locs (zcells L - zcells L) (zslots L - zslots L) Q (F0 mt pc lc sc) := by
    intro run T hTT X
    obtain ⟨v, st₀, t, T', Lc, h0, X', hL, f1, f2, ⟨v', hv, hrv, hh1⟩, stp⟩ := run T hTT X
    cases hv
    have hv2 : zsr E (zpu r1 st1) (v.toList ++ sc.drop na) := by
      cases r1 with
      | none =>
        cases v with
        | none => exact hrest
        | some b => exact hrv.elim
      | some a =>
        cases v with
        | none => exact hrv.elim
        | some b => exact ⟨hrv, hrest⟩
    have kk := k9 T'.heap (locs ++ Lc) lc (v.toList ++ sc.drop na) hl hv2 (by rw [f1]; exact hh1) (fun q hq => (List.mem_append.mp hq).elim (ho q) (hL q))
    have ec : zcells L - zcells L + (zcells L - zcells L) = zcells L - zcells L := by omega
    have es : zslots L - zslots L + (zslots L - zslots L) = zslots L - zslots L := by omega
    rw [ec, es] at X'
    obtain ⟨tt, a1, b1⟩ := kk T' rfl X'
    rw [hpc1] at a1
    exact ⟨tt, stp tt a1, b1⟩
  have hroom : zcells L - zcells L + (zcells L - zcells L) ≤ R.cells ∧ zslots L - zslots L + (zslots L - zslots L) ≤ R.slots := ⟨by omega, by omega⟩
  have hsz : lc.size = c.maxLocals := by rw [hml]; exact hl.1
  have hfx : CallFix p mt c (zmd mi).2.1 c.maxLocals s args ([] : List Cond) (zown mi) := ⟨hx, hb, rfl, hown, fun w hw => by cases hw⟩
  have hbase : ∀ nn, (parseMethodDescriptor (zmd k).1.desc).map (fun d => d.parameters.length) = some nn → (Cond.methodLink (zown mi) idx (zmd k).1).before args s = true → CallB R s args (zown mi) idx (zmd k).1 (zmd k).2.1 (zmx k) (zmd k).2.2 (zwsm k) ({ frames := zfr k, cells := zcells L - zcells L, slots := zslots L - zslots L, locals := zlo k }) (zcells L - zcells L) (zslots L - zslots L) nn := fun nn h hlk =>
    ⟨rfl, rfl, by show zfr k + 1 ≤ R.frames; omega, by show 8 + (zmx k + 11) + zlo k ≤ R.locals; omega, hwsm, List.mem_singleton.mpr rfl, hcodeb, hinib, ⟨hmh1, hmh2⟩, hcB nn h, hlk⟩
  have hbaseN : ∀ nn, (parseMethodDescriptor (zmd k).1.desc).map (fun d => d.parameters.length) = some nn → (Cond.methodLinkNest (zown mi) idx (zmd k).1 "StolenFinals").before args s = true → va_CN R s args (zown mi) idx (zmd k).1 "StolenFinals" (zmd k).2.1 (zmx k) (zmd k).2.2 (zwsm k) ({ frames := zfr k, cells := zcells L - zcells L, slots := zslots L - zslots L, locals := zlo k }) (zcells L - zcells L) (zslots L - zslots L) nn := fun nn h hlk =>
    ⟨⟨rfl, rfl, by show zfr k + 1 ≤ R.frames; omega, by show 8 + (zmx k + 11) + zlo k ≤ R.locals; omega, hwsm, List.mem_singleton.mpr rfl⟩, hcodeb, hinib, ⟨hmh1, hmh2⟩, hcB nn h, hlk⟩
  have hlinkU : nest = false → (Cond.methodLink (zown mi) idx (zmd k).1).before args s = true := fun hn => by
    rw [hn, if_neg (by decide)] at hlink
    exact hK.use pl hlink (by rfl)
  have hlinkN : nest = true → (Cond.methodLinkNest (zown mi) idx (zmd k).1 "StolenFinals").before args s = true := fun hn => by
    rw [hn, if_pos rfl] at hlink
    exact hK.use pl hlink (by rfl)
  rcases hins with ⟨rfl, hkdv⟩ | ⟨rfl, rfl⟩ | ⟨rfl, rfl⟩
  · -- on an object
    have hkd50 : kd5 = 0 := by rcases hkdv with rfl | rfl <;> simpa using hmk0
    subst hkd50
    rw [if_neg (by decide)] at hw1
    have hinst : (Cond.instanceMethod (zmd k).1).before args s = true := hK.use p1 hw1 (by rfl)
    have hsel : (Cond.selects (zmd k).1.cls (zmd k).1 (zmd k).1).before args s = true := hK.use p2 (hw2 rfl) (by rfl)
    have hpn : (parseMethodDescriptor (zmd k).1.desc).map (fun d => d.parameters.length) = some (na - 1) := by
      rw [if_neg (by rcases hkdv with rfl | rfl <;> decide)] at hparm; exact hparm
    have hrecv : ∃ (b : Addr) (As : List Value), ac = .ref b :: As ∧ ∃ cellB : Cell, H[b]? = some cellB ∧ cellB.vm.isStatics = false ∧ s.vm.findClass (zmd k).1.cls = some cellB.cls := by
      rcases hkdv with rfl | rfl
      · obtain ⟨a, t, ha, hta⟩ := hk0 rfl
        obtain ⟨hob1, hob2⟩ := hobj rfl
        rw [ha] at hac
        obtain ⟨w, As, hac2, hw, -⟩ := zsr_cons hac
        have h2 : 2 ≤ a := zhr_two hh (by omega) (by omega)
        have hw : w = zad E a := hw
        rw [zad_two h2] at hw
        obtain ⟨c1, c2⟩ := zhr_cell hh (by omega) h2
        rw [hta] at c1 c2
        rcases c2 with ⟨-, -, -, -, cell, q1, q2, q3, -⟩ | ⟨d1, -⟩
        · refine ⟨_, As, by rw [hac2, hw], cell, q1, by rw [q3]; rfl, ?_⟩
          rw [hob2, q2]
          exact (hK.1.1 (zcl k) _ (zcT_get hob1)).2.1
        · omega
      · obtain ⟨j, t, ha⟩ := hk4 rfl
        rw [ha] at hac
        obtain ⟨w, As, hac2, ⟨hj, hw⟩, -⟩ := zsr_cons hac
        obtain ⟨-, -, -, -, -, -, -, -, -, hss, -⟩ := id hK
        obtain ⟨cell, g1, g2, g3, -⟩ := (zStr_at hss hj).1.kept (z_keep hK hh)
        exact ⟨_, As, by rw [hac2, hw], cell, g1, g2, by rw [hstr rfl]; exact g3⟩
    obtain ⟨b, As, hacb, cellB, hcb1, hcb2, hcb3⟩ := hrecv
    subst hacb
    have hAs : As.length = na - 1 := by rw [List.length_cons] at hacl; omega
    have hstk : sc = As.reverse ++ .ref b :: sc.drop na := by
      rw [List.reverse_cons, List.append_assoc] at hsc
      exact hsc
    have hpre : PreV s H (zmd k).1.cls b (zPc E D cA H0 scr L m (.ref b :: As)) As := ⟨zPc_blind, ⟨cellB, hcb1, hcb2, hcb3⟩, hPc⟩
    cases nest with
    | false => exact fin (va_runV (g := F0 mt pc lc sc) hfx hmet ⟨hbase _ hpn (hlinkU rfl), hinst, hsel⟩ hpre rfl hAs hsz hstk (lv_room hsumr) hd hroom)
    | true => exact fin (va_runVN (g := F0 mt pc lc sc) hfx hmet ⟨hbaseN _ hpn (hlinkN rfl), hinst, hsel⟩ hpre rfl hAs hsz hstk (lv_room hsumr) hd hroom)
  · -- a static one
    have hkd51 : kd5 = 1 := by simpa using hmk0
    subst hkd51
    rw [if_pos rfl] at hw1
    have hstat : (Cond.static (zmd k).1).before args s = true := hK.use p1 hw1 (by rfl)
    have hpn : (parseMethodDescriptor (zmd k).1.desc).map (fun d => d.parameters.length) = some na := by
      rw [if_pos rfl] at hparm; exact hparm
    have hpre : PreS s H (zPc E D cA H0 scr L m ac) ac := ⟨zPc_blind, hPc⟩
    cases nest with
    | false => exact fin (va_runS (g := F0 mt pc lc sc) hfx hmet ⟨hbase _ hpn (hlinkU rfl), hstat⟩ hpre rfl hacl hsz hsc (lv_room hsumr) hd hroom)
    | true => exact fin (va_runSN (g := F0 mt pc lc sc) hfx hmet ⟨hbaseN _ hpn (hlinkN rfl), hstat, trivial⟩ hpre rfl hacl hsz hsc (lv_room hsumr) hd hroom)
  · -- a constructor
    have hkd52 : kd5 = 2 := by simpa using hmk0
    subst hkd52
    rw [if_neg (by decide)] at hw1
    have hinst : (Cond.instanceMethod (zmd k).1).before args s = true := hK.use p1 hw1 (by rfl)
    obtain ⟨hin1, hin2⟩ := hini rfl
    have hpn : (parseMethodDescriptor (zmd k).1.desc).map (fun d => d.parameters.length) = some (na - 1) := by
      rw [if_neg (by decide)] at hparm; exact hparm
    obtain ⟨a, t, ha, h2⟩ := hk2 rfl
    rw [ha] at hac
    obtain ⟨w, As, hac2, hw, -⟩ := zsr_cons hac
    have hw : w = zad E a := hw
    rw [zad_two h2] at hw
    subst hw
    subst hac2
    have hAs : As.length = na - 1 := by rw [List.length_cons] at hacl; omega
    have hstk : sc = As.reverse ++ .ref (E.1 + (a - 2)) :: sc.drop na := by
      rw [List.reverse_cons, List.append_assoc] at hsc
      exact hsc
    have hpre : PreS s H (zPc E D cA H0 scr L m (.ref (E.1 + (a - 2)) :: As)) (.ref (E.1 + (a - 2)) :: As) := ⟨zPc_blind, hPc⟩
    have hb0 := hbase _ hpn
    have hbN0 := hbaseN _ hpn
    rw [hin2] at hb0 hbN0
    cases nest with
    | false => exact fin (va_runI (g := F0 mt pc lc sc) hfx hmet ⟨hb0 (hlinkU rfl), hin1, hinst⟩ hpre rfl hAs hsz hstk (lv_room hsumr) hd hroom)
    | true => exact fin (va_runIN (g := F0 mt pc lc sc) hfx hmet ⟨hbN0 (hlinkN rfl), hin1, hinst⟩ hpre rfl hAs hsz hstk (lv_room hsumr) hd hroom)
end ZT1
