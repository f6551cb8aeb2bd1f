section ZG
/-- what the step of the law's 'told' owes (proved behind the calls) -/
def zTold (p : Program) (l : Launch) (e : Env) (R : Room) (s : State) (mt : MethodId) (args : Array Value) (below : List Frame) (meth : Method) (c : Code) (Q : State → Prop) (E : zE) (D : va_G) (cA : Nat → ClassId) (H0 : Heap) (scr : Cell) (cc : ByteArray) (ci c0 s0 : Nat) : Prop :=
  ∀ (k q a pc : Nat) (st st' : List zV) (L L' : zY) (m m' : zM) (H : Heap) (locs : List Loc) (lc : Array Slot) (sc : List Value), zlk zcal (zkey ci k) = some (q, a, 5) → k < 10000 → decode cc pc = .ok (.invokestatic k, 3) → 9 ≤ R.frames → 300 ≤ R.locals → c0 ≤ zcells L → s0 ≤ zslots L → zcells L' - c0 ≤ R.cells ∧ zslots L' - s0 ≤ R.slots →
    lc.size = c.maxLocals → zsr E st sc → zhr E D cA H0 scr L m H → (∀ q ∈ locs, E.1 ≤ q.base) → ztold st L m = some (st', L', m') →
    (∀ (H' : Heap) (locs' : List Loc) (sc' : List Value), zsr E st' sc' → zhr E D cA H0 scr L' m' H' → (∀ q ∈ locs', E.1 ≤ q.base) → W p l e R s mt args below meth c H' locs' (zcells L' - c0) (zslots L' - s0) Q (F0 mt (pc + 3) lc sc')) → W p l e R s mt args below meth c H locs (zcells L - c0) (zslots L - s0) Q (F0 mt pc lc sc)
variable {p : Program} {l : Launch} {e : Env} {R : Room} {s : State} {mt : MethodId} {args : Array Value} {below : List Frame} {meth : Method} {c : Code} {H : Heap} {locs : List Loc} {Q : State → Prop} {E : zE} {D : va_G} {cA : Nat → ClassId} {H0 : Heap} {scr : Cell} {nL : Nat} {cc : ByteArray} {pc pc' : Nat} {lc : Array Slot} {sc : List Value} {L L' : zY} {m m' : zM} {ls st ls' st' : List zV}
theorem zcells_nu {t n : Nat} : zcells (znu L t n) = zcells L + 1 := by
  unfold zcells znu
  simp only [List.length_append, List.length_cons, List.length_nil]
  omega
theorem zslots_nu {t n : Nat} : zslots (znu L t n) = zslots L + n := by
  unfold zslots znu
  simp only [List.map_append, List.map_cons, List.map_nil, List.sum_append, List.sum_cons, List.sum_nil]
  omega
theorem z_sumrep (n k t : Nat) : ((List.replicate n (t, k)).map (fun q : Nat × Nat => q.2)).sum = n * k := by
  induction n with
  | zero => simp
  | succ n ih => rw [List.replicate_succ, List.map_cons, List.sum_cons, ih, Nat.succ_mul]; omega
theorem zcells_mna {t x y : Nat} : zcells (L.1 ++ ((t, x) :: List.replicate x (t - 2, y)), L.2) = zcells L + 1 + x := by
  unfold zcells
  simp only [List.length_append, List.length_cons, List.length_replicate]
  omega
theorem zslots_mna {t x y : Nat} : zslots (L.1 ++ ((t, x) :: List.replicate x (t - 2, y)), L.2) = zslots L + x + x * y := by
  unfold zslots
  simp only [List.map_append, List.map_cons, List.sum_append, List.sum_cons, z_sumrep]
  omega
theorem zcal3 {ci k q a : Nat} (hk : k < 10000) (h : zlk zcal (zkey ci k) = some (q, a, 3)) : ∃ pl : Nat, lw_tbl[pl]? = some (Cond.methodLink (zowns.getD ci "") k objectInit) := by
  have h1 := zcchk_all _ (zlk_mem h)
  have e1 : zkey ci k / 10000 = ci := by unfold zkey; omega
  have e2 : zkey ci k % 10000 = k := by unfold zkey; omega
  unfold zcchk at h1
  split at h1
  · rename_i nest pl hp
    simp only [e1, e2, decide_eq_true_eq] at h1
    rcases h1 with h1 | h1 | h1 | h1
    · exact ⟨pl, h1.2.2⟩
    · exact absurd h1.1 (by decide)
    · exact absurd h1.1 (by decide)
    · exact absurd rfl h1.1
  · cases h1
theorem zcal6 {ci k q a : Nat} (hk : k < 10000) (h : zlk zcal (zkey ci k) = some (q, a, 6)) : ∃ pl : Nat, lw_tbl[pl]? = some (Cond.methodLink (zowns.getD ci "") k Lib.Math.min.name) := by
  have h1 := zcchk_all _ (zlk_mem h)
  have e1 : zkey ci k / 10000 = ci := by unfold zkey; omega
  have e2 : zkey ci k % 10000 = k := by unfold zkey; omega
  unfold zcchk at h1
  split at h1
  · rename_i nest pl hp
    simp only [e1, e2, decide_eq_true_eq] at h1
    rcases h1 with h1 | h1 | h1 | h1
    · exact absurd h1.1 (by decide)
    · exact ⟨pl, h1.2.2⟩
    · exact absurd h1.1 (by decide)
    · exact absurd rfl h1.2.2.1
  · cases h1

set_option maxHeartbeats 4000000 in
theorem zx_step {ci rk fr lo n c0 s0 : Nat} {i : Instr} (hx : p.tables.exec = Jvm.exec) (hb : c.code = cc) (hml : c.maxLocals = nL) (hown : s.vm.findClass (zowns.getD ci "") = some mt.cls) (hK : zK E D cA H0 scr s) (hd : decode cc pc = .ok (i, n)) (hn : zlen i = 0 ∨ n = zlen i) (hi : zidx i < 10000)
    (hfin : ∀ k t f kd, i = .putfield k → zlk zfld (zkey ci k) = some (t, f, kd) → ((zcT (t - 1)).2.1 f).2.2.2 = true → meth.name = "<init>" ∧ zowns.getD ci "" = (zcT (t - 1)).1)
    (hRf : fr ≤ R.frames) (hRl : lo ≤ R.locals) (hc0 : c0 ≤ zcells L) (hs0 : s0 ≤ zslots L) (hR : zcells L' - c0 ≤ R.cells ∧ zslots L' - s0 ≤ R.slots) (hT : zTold p l e R s mt args below meth c Q E D cA H0 scr cc ci c0 s0)
    (hl : zlr E nL ls lc) (hs : zsr E st sc) (hh : zhr E D cA H0 scr L m H) (ho : ∀ q ∈ locs, E.1 ≤ q.base) (hz : zex ci rk fr lo i n pc ls st L m = some (.inl (pc', ls', st', L', m')))
    (k : ∀ (H' : Heap) (locs' : List Loc) (lc' : Array Slot) (sc' : List Value), zlr E nL ls' lc' → zsr E st' sc' → zhr E D cA H0 scr L' m' H' → (∀ q ∈ locs', E.1 ≤ q.base) → W p l e R s mt args below meth c H' locs' (zcells L' - c0) (zslots L' - s0) Q (F0 mt pc' lc' sc')) :
    W p l e R s mt args below meth c H locs (zcells L - c0) (zslots L - s0) Q (F0 mt pc lc sc) := by
  have kp : ∀ (lc' : Array Slot) (sc' : List Value), L' = L → m' = m → zlr E nL ls' lc' → zsr E st' sc' → W p l e R s mt args below meth c H locs (zcells L - c0) (zslots L - s0) Q (F0 mt pc' lc' sc') := fun lc' sc' e1 e2 h1 h2 => by
    subst e1; subst e2; exact k H locs lc' sc' h1 h2 hh ho
  have INJ : ∀ {a1 : Nat} {a2 a3 : List zV} {a4 : zY} {a5 : zM}, zgo a1 a2 a3 a4 a5 = some (.inl (pc', ls', st', L', m')) → a1 = pc' ∧ a2 = ls' ∧ a3 = st' ∧ a4 = L' ∧ a5 = m' := fun h => by
    simp only [zgo, Option.some.injEq, Sum.inl.injEq, Prod.mk.injEq] at h
    exact h
  cases i with
  | aload j =>
    obtain rfl : n = 2 := by simpa [zlen] using hn
    exact zx_aload hx hb hd hl hs hz kp
  | aload_n j =>
    obtain rfl : n = 1 := by simpa [zlen] using hn
    exact zx_aload_n hx hb hd hl hs hz kp
  | iload j =>
    obtain rfl : n = 2 := by simpa [zlen] using hn
    exact zx_iload hx hb hd hl hs hz kp
  | iload_n j =>
    obtain rfl : n = 1 := by simpa [zlen] using hn
    exact zx_iload_n hx hb hd hl hs hz kp
  | lload j =>
    obtain rfl : n = 2 := by simpa [zlen] using hn
    exact zx_lload hx hb hd hl hs hz kp
  | lload_n j =>
    obtain rfl : n = 1 := by simpa [zlen] using hn
    exact zx_lload_n hx hb hd hl hs hz kp
  | astore j =>
    obtain rfl : n = 2 := by simpa [zlen] using hn
    exact zx_astore hx hb hd hl hs hz kp
  | astore_n j =>
    obtain rfl : n = 1 := by simpa [zlen] using hn
    exact zx_astore_n hx hb hd hl hs hz kp
  | istore j =>
    obtain rfl : n = 2 := by simpa [zlen] using hn
    exact zx_istore hx hb hd hl hs hz kp
  | istore_n j =>
    obtain rfl : n = 1 := by simpa [zlen] using hn
    exact zx_istore_n hx hb hd hl hs hz kp
  | lstore j =>
    obtain rfl : n = 2 := by simpa [zlen] using hn
    exact zx_lstore hx hb hd hl hs hz kp
  | lstore_n j =>
    obtain rfl : n = 1 := by simpa [zlen] using hn
    exact zx_lstore_n hx hb hd hl hs hz kp
  | iinc j d =>
    obtain rfl : n = 3 := by simpa [zlen] using hn
    simp only [zex] at hz
    split at hz
    · rename_i x hg
      split at hz
      · rename_i hr
        exact zx_iinc hx hb hd hl hs hg hr hz kp
      · cases hz
    · cases hz
  | iconst d =>
    obtain rfl : n = 1 := by simpa [zlen] using hn
    exact zx_iconst hx hb hd hl hs hz kp
  | bipush d =>
    obtain rfl : n = 2 := by simpa [zlen] using hn
    exact zx_bipush hx hb hd hl hs hz kp
  | sipush d =>
    obtain rfl : n = 3 := by simpa [zlen] using hn
    exact zx_sipush hx hb hd hl hs hz kp
  | lconst d =>
    obtain rfl : n = 1 := by simpa [zlen] using hn
    exact zx_lconst hx hb hd hl hs hz kp
  | aconst_null =>
    obtain rfl : n = 1 := by simpa [zlen] using hn
    exact zx_null hx hb hd hl hs hz kp
  | iadd =>
    obtain rfl : n = 1 := by simpa [zlen] using hn
    exact zx_iadd hx hb hd hl hs hz kp
  | isub =>
    obtain rfl : n = 1 := by simpa [zlen] using hn
    exact zx_isub hx hb hd hl hs hz kp
  | imul =>
    obtain rfl : n = 1 := by simpa [zlen] using hn
    exact zx_imul hx hb hd hl hs hz kp
  | iand =>
    obtain rfl : n = 1 := by simpa [zlen] using hn
    exact zx_iand hx hb hd hl hs hz kp
  | ishr =>
    obtain rfl : n = 1 := by simpa [zlen] using hn
    exact zx_ishr hx hb hd hl hs hz kp
  | idiv =>
    obtain rfl : n = 1 := by simpa [zlen] using hn
    simp only [zex] at hz
    split at hz
    · exact zx_idiv hx hb hd hl hs hz kp
    · cases hz
  | irem =>
    obtain rfl : n = 1 := by simpa [zlen] using hn
    simp only [zex] at hz
    split at hz
    · exact zx_irem hx hb hd hl hs hz kp
    · cases hz
  | ladd =>
    obtain rfl : n = 1 := by simpa [zlen] using hn
    simp only [zex] at hz
    split at hz
    · exact zx_ladd hx hb hd hl hs hz kp
    · cases hz
  | lcmp =>
    obtain rfl : n = 1 := by simpa [zlen] using hn
    simp only [zex] at hz
    split at hz
    · exact zx_lcmp hx hb hd hl hs hz kp
    · cases hz
  | i2l =>
    obtain rfl : n = 1 := by simpa [zlen] using hn
    simp only [zex] at hz
    split at hz
    · exact zx_i2l hx hb hd hl hs hz kp
    · cases hz
  | i2c =>
    obtain rfl : n = 1 := by simpa [zlen] using hn
    simp only [zex] at hz
    split at hz
    · exact zx_i2c hx hb hd hl hs hz kp
    · cases hz
  | dup =>
    obtain rfl : n = 1 := by simpa [zlen] using hn
    simp only [zex] at hz
    split at hz
    · exact zx_dup hx hb hd hl hs hz kp
    · cases hz
  | dup2 =>
    obtain rfl : n = 1 := by simpa [zlen] using hn
    simp only [zex] at hz
    split at hz
    · exact zx_dup2 hx hb hd hl hs hz kp
    · cases hz
  | pop =>
    obtain rfl : n = 1 := by simpa [zlen] using hn
    simp only [zex] at hz
    split at hz
    · exact zx_pop hx hb hd hl hs hz kp
    · cases hz
  | goto off =>
    obtain rfl : n = 3 := by simpa [zlen] using hn
    exact zx_goto hx hb hd hl hs hz kp
  | ifCond cd off =>
    obtain rfl : n = 3 := by simpa [zlen] using hn
    simp only [zex] at hz
    split at hz
    · exact zx_if hx hb hd hl hs hz kp
    · cases hz
  | if_icmp cd off =>
    obtain rfl : n = 3 := by simpa [zlen] using hn
    simp only [zex] at hz
    split at hz
    · exact zx_if_icmp hx hb hd hl hs hz kp
    · cases hz
  | ifnull off =>
    obtain rfl : n = 3 := by simpa [zlen] using hn
    simp only [zex] at hz
    split at hz
    · exact zx_ifnull hx hb hd hl hs hz kp
    · cases hz
  | tableswitch d lo hi offs =>
    simp only [zex] at hz
    split at hz
    · exact zx_table hx hb hd hl hs hz kp
    · cases hz
  | lookupswitch d ps =>
    simp only [zex] at hz
    split at hz
    · exact zx_lookup hx hb hd hl hs hz kp
    · cases hz
  | ldc j =>
    obtain rfl : n = 2 := by simpa [zlen] using hn
    simp only [zex] at hz
    split at hz
    · rename_i v hv
      obtain ⟨rfl, rfl, rfl, rfl, rfl⟩ := INJ hz
      exact zx_ldc hx hb hown hK hi hv hd (fun w hw => kp _ _ rfl rfl hl ⟨hw, hs⟩)
    · rename_i v hv1 hv
      obtain ⟨rfl, rfl, rfl, rfl, rfl⟩ := INJ hz
      exact zx_ldcs hx hb hown hK hi hv hd (fun w hw => kp _ _ rfl rfl hl ⟨hw, hs⟩)
    · cases hz
  | ldc_w j =>
    obtain rfl : n = 3 := by simpa [zlen] using hn
    simp only [zex] at hz
    split at hz
    · rename_i v hv
      obtain ⟨rfl, rfl, rfl, rfl, rfl⟩ := INJ hz
      exact zx_ldcw hx hb hown hK hi hv hd (fun w hw => kp _ _ rfl rfl hl ⟨hw, hs⟩)
    · cases hz
  | ldc2_w j =>
    obtain rfl : n = 3 := by simpa [zlen] using hn
    simp only [zex] at hz
    split at hz
    · rename_i v hv
      obtain ⟨rfl, rfl, rfl, rfl, rfl⟩ := INJ hz
      exact zx_ldc2 hx hb hown hK hi hv hd (fun w hw => kp _ _ rfl rfl hl ⟨hw, hs⟩)
    · cases hz
  | getstatic j =>
    obtain rfl : n = 3 := by simpa [zlen] using hn
    simp only [zex] at hz
    split at hz
    · rename_i hv
      obtain ⟨rfl, rfl, rfl, rfl, rfl⟩ := INJ hz
      exact zx_gets hx hb hown hK hh hi hv hd (fun w hw => kp _ _ rfl rfl hl ⟨hw, hs⟩)
    · rename_i v h0 hv
      obtain ⟨rfl, rfl, rfl, rfl, rfl⟩ := INJ hz
      exact zx_gets hx hb hown hK hh hi hv hd (fun w hw => kp _ _ rfl rfl hl ⟨by rw [if_neg (fun q => by first | exact h0 q | exact h0 (by rw [q]) | (subst q; exact h0 rfl))] at hw; exact hw, hs⟩)
    · cases hz
  | getfield j =>
    obtain rfl : n = 3 := by simpa [zlen] using hn
    simp only [zex] at hz
    split at hz
    · rename_i f hf
      obtain ⟨t, f, kd⟩ := f
      unfold zgf at hz
      split at hz
      · rename_i t1 f1 a r hq
        cases hq
        split at hz
        · rename_i ht
          obtain ⟨rfl, rfl, rfl, rfl, rfl⟩ := INJ hz
          obtain ⟨w, sc1, rfl, h1, hs1⟩ := zsr_cons hs
          have h1 : w = zad E a := h1
          subst h1
          exact zx_get hx hb hown hK hh hi hf (by omega) ht hd (fun w hw => kp _ _ rfl rfl hl ⟨hw, hs1⟩)
        · cases hz
      · rename_i t1 f1 a r hq
        cases hq
        split at hz
        · rename_i ht
          obtain ⟨rfl, rfl, rfl, rfl, rfl⟩ := INJ hz
          obtain ⟨w, sc1, rfl, h1, hs1⟩ := zsr_cons hs
          have h1 : w = zad E a := h1
          subst h1
          exact zx_get hx hb hown hK hh hi hf (by omega) ht hd (fun w hw => kp _ _ rfl rfl hl ⟨hw, hs1⟩)
        · cases hz
      · rename_i t1 f1 a r hq
        cases hq
        split at hz
        · rename_i ht
          obtain ⟨rfl, rfl, rfl, rfl, rfl⟩ := INJ hz
          obtain ⟨w, sc1, rfl, h1, hs1⟩ := zsr_cons hs
          have h1 : w = zad E a := h1
          subst h1
          exact zx_get hx hb hown hK hh hi hf (by omega) ht hd (fun w hw => kp _ _ rfl rfl hl ⟨hw, hs1⟩)
        · cases hz
      · rename_i t1 f1 a r hq
        cases hq
        split at hz
        · rename_i ht
          obtain ⟨rfl, rfl, rfl, rfl, rfl⟩ := INJ hz
          obtain ⟨w, sc1, rfl, h1, hs1⟩ := zsr_cons hs
          have h1 : w = zad E a := h1
          subst h1
          exact zx_get hx hb hown hK hh hi hf (by omega) ht hd (fun w hw => kp _ _ rfl rfl hl ⟨hw, hs1⟩)
        · cases hz
      · rename_i t1 f1 jj r hq
        cases hq
        obtain ⟨rfl, rfl, rfl, rfl, rfl⟩ := INJ hz
        obtain ⟨w, sc1, rfl, h1, hs1⟩ := zsr_cons hs
        obtain ⟨h1, rfl⟩ := h1
        exact zx_gstr hx hb hown hK hh hi hf (Or.inl rfl) h1 hd (fun w hw => kp _ _ rfl rfl hl ⟨hw, hs1⟩)
      · rename_i t1 f1 jj r hq
        cases hq
        obtain ⟨rfl, rfl, rfl, rfl, rfl⟩ := INJ hz
        obtain ⟨w, sc1, rfl, h1, hs1⟩ := zsr_cons hs
        obtain ⟨h1, rfl⟩ := h1
        exact zx_gstr hx hb hown hK hh hi hf (Or.inr rfl) h1 hd (fun w hw => kp _ _ rfl rfl hl ⟨hw, hs1⟩)
      · cases hz
    · cases hz
  | putfield j =>
    obtain rfl : n = 3 := by simpa [zlen] using hn
    simp only [zex] at hz
    split at hz
    · rename_i f hf
      obtain ⟨t, f, kd⟩ := f
      unfold zpf at hz
      split at hz
      · rename_i t1 f1 x a r hq
        cases hq
        split at hz
        · rename_i ht
          obtain ⟨rfl, rfl, rfl, rfl, rfl⟩ := INJ hz
          obtain ⟨w, sc1, rfl, ⟨v, rfl, rfl⟩, hs1⟩ := zsr_cons hs
          obtain ⟨w, sc1, rfl, h1, hs2⟩ := zsr_cons hs1
          have h1 : w = zad E a := h1
          subst h1
          have := zx_put (x := v.toInt) (r := sc1) (lc := lc) (cells := zcells L - c0) (slots := zslots L - s0) (Q := Q) hx hb hown hK hh ho hi hf (by omega) ht (z_rng32 v) (hfin _ _ _ _ rfl hf) hd (fun H1 locs1 g1 g2 => k H1 locs1 _ _ hl hs2 g1 g2)
          rw [show zcv E 0 v.toInt = .int v by show Value.int (Int32.ofInt v.toInt) = _; rw [z_ofInt32]] at this
          exact this
        · cases hz
      · rename_i t1 f1 x a r hq
        cases hq
        split at hz
        · rename_i ht
          obtain ⟨rfl, rfl, rfl, rfl, rfl⟩ := INJ hz
          obtain ⟨w, sc1, rfl, ⟨v, rfl, rfl⟩, hs1⟩ := zsr_cons hs
          obtain ⟨w, sc1, rfl, h1, hs2⟩ := zsr_cons hs1
          have h1 : w = zad E a := h1
          subst h1
          have := zx_put (x := v.toInt) (r := sc1) (lc := lc) (cells := zcells L - c0) (slots := zslots L - s0) (Q := Q) hx hb hown hK hh ho hi hf (by omega) ht.1 ht.2 (hfin _ _ _ _ rfl hf) hd (fun H1 locs1 g1 g2 => k H1 locs1 _ _ hl hs2 g1 g2)
          rw [show zcv E 1 v.toInt = .int v by show Value.int (Int32.ofInt v.toInt) = _; rw [z_ofInt32]] at this
          exact this
        · cases hz
      · rename_i t1 f1 v a r hq
        cases hq
        split at hz
        · rename_i ht
          obtain ⟨rfl, rfl, rfl, rfl, rfl⟩ := INJ hz
          obtain ⟨w, sc1, rfl, h0, hs1⟩ := zsr_cons hs
          obtain ⟨w2, sc1, rfl, h1, hs2⟩ := zsr_cons hs1
          have h0 : w = zad E v := h0
          have h1 : w2 = zad E a := h1
          subst h0; subst h1
          have := zx_put (x := (v : Int)) (r := sc1) (lc := lc) (cells := zcells L - c0) (slots := zslots L - s0) (Q := Q) hx hb hown hK hh ho hi hf (by omega) ht.1 ⟨by omega, by rw [Int.toNat_natCast]; exact ht.2⟩ (hfin _ _ _ _ rfl hf) hd (fun H1 locs1 g1 g2 => k H1 locs1 _ _ hl hs2 g1 g2)
          rw [show zcv E 3 (v : Int) = zad E v by show zad E (v : Int).toNat = _; rw [Int.toNat_natCast]] at this
          exact this
        · cases hz
      · cases hz
    · cases hz
  | iaload =>
    obtain rfl : n = 1 := by simpa [zlen] using hn
    simp only [zex] at hz
    split at hz
    · rename_i jj a r
      split at hz
      · rename_i ht
        obtain ⟨rfl, rfl, rfl, rfl, rfl⟩ := INJ hz
        obtain ⟨w, sc1, rfl, ⟨v, rfl, rfl⟩, hs1⟩ := zsr_cons hs
        obtain ⟨w, sc1, rfl, h1, hs2⟩ := zsr_cons hs1
        have h1 : w = zad E a := h1
        subst h1
        exact zx_iald hx hb hK hh ht.1 ht.2.1 ht.2.2 hd (fun w hw => kp _ _ rfl rfl hl ⟨hw, hs2⟩)
      · cases hz
    · cases hz
  | laload =>
    obtain rfl : n = 1 := by simpa [zlen] using hn
    simp only [zex] at hz
    split at hz
    · rename_i jj a r
      split at hz
      · rename_i ht
        obtain ⟨rfl, rfl, rfl, rfl, rfl⟩ := INJ hz
        obtain ⟨w, sc1, rfl, ⟨v, rfl, rfl⟩, hs1⟩ := zsr_cons hs
        obtain ⟨w, sc1, rfl, h1, hs2⟩ := zsr_cons hs1
        have h1 : w = zad E a := h1
        subst h1
        exact zx_lald hx hb hK hh ht.1 ht.2.1 ht.2.2 hd (fun w hw => kp _ _ rfl rfl hl ⟨hw, hs2⟩)
      · cases hz
    · cases hz
  | aaload =>
    obtain rfl : n = 1 := by simpa [zlen] using hn
    simp only [zex] at hz
    split at hz
    · rename_i jj a r
      split at hz
      · rename_i ht
        obtain ⟨rfl, rfl, rfl, rfl, rfl⟩ := INJ hz
        obtain ⟨w, sc1, rfl, ⟨v, rfl, rfl⟩, hs1⟩ := zsr_cons hs
        obtain ⟨w, sc1, rfl, h1, hs2⟩ := zsr_cons hs1
        have h1 : w = zad E a := h1
        subst h1
        exact zx_aald hx hb hK hh ht.1 ht.2.1 ht.2.2 hd (fun w hw => kp _ _ rfl rfl hl ⟨hw, hs2⟩)
      · cases hz
    · cases hz
  | baload =>
    obtain rfl : n = 1 := by simpa [zlen] using hn
    simp only [zex] at hz
    split at hz
    · rename_i jj a r
      split at hz
      · rename_i ht
        obtain ⟨rfl, rfl, rfl, rfl, rfl⟩ := INJ hz
        obtain ⟨w, sc1, rfl, ⟨v, rfl, rfl⟩, hs1⟩ := zsr_cons hs
        obtain ⟨w, sc1, rfl, ⟨h1, rfl⟩, hs2⟩ := zsr_cons hs1
        exact zx_bald hx hb hK hh h1 ht.1 ht.2 hd (fun w hw => kp _ _ rfl rfl hl ⟨hw, hs2⟩)
      · cases hz
    · cases hz
  | iastore =>
    obtain rfl : n = 1 := by simpa [zlen] using hn
    simp only [zex] at hz
    split at hz
    · rename_i x jj a r
      split at hz
      · rename_i ht
        obtain ⟨rfl, rfl, rfl, rfl, rfl⟩ := INJ hz
        obtain ⟨w, sc1, rfl, ⟨u, rfl, rfl⟩, hs1⟩ := zsr_cons hs
        obtain ⟨w, sc1, rfl, ⟨v, rfl, rfl⟩, hs2⟩ := zsr_cons hs1
        obtain ⟨w, sc1, rfl, h1, hs3⟩ := zsr_cons hs2
        have h1 : w = zad E a := h1
        subst h1
        exact zx_iast hx hb hK hh ho ht.1 ht.2.1 ht.2.2.1 ht.2.2.2 hd (fun H1 locs1 g1 g2 => k H1 locs1 _ _ hl hs3 g1 g2)
      · cases hz
    · cases hz
  | lastore =>
    obtain rfl : n = 1 := by simpa [zlen] using hn
    simp only [zex] at hz
    split at hz
    · rename_i x jj a r
      split at hz
      · rename_i ht
        obtain ⟨rfl, rfl, rfl, rfl, rfl⟩ := INJ hz
        obtain ⟨w, sc1, rfl, ⟨u, rfl, rfl⟩, hs1⟩ := zsr_cons hs
        obtain ⟨w, sc1, rfl, ⟨v, rfl, rfl⟩, hs2⟩ := zsr_cons hs1
        obtain ⟨w, sc1, rfl, h1, hs3⟩ := zsr_cons hs2
        have h1 : w = zad E a := h1
        subst h1
        exact zx_last hx hb hK hh ho ht.1 ht.2.1 ht.2.2 hd (fun H1 locs1 g1 g2 => k H1 locs1 _ _ hl hs3 g1 g2)
      · cases hz
    · cases hz
  | arraylength =>
    obtain rfl : n = 1 := by simpa [zlen] using hn
    simp only [zex] at hz
    split at hz
    · rename_i a r
      split at hz
      · rename_i ht
        obtain ⟨rfl, rfl, rfl, rfl, rfl⟩ := INJ hz
        obtain ⟨w, sc1, rfl, h1, hs1⟩ := zsr_cons hs
        have h1 : w = zad E a := h1
        subst h1
        exact zx_alen hx hb hK hh ht hd (fun w hw => kp _ _ rfl rfl hl ⟨hw, hs1⟩)
      · cases hz
    · rename_i a r
      obtain ⟨rfl, rfl, rfl, rfl, rfl⟩ := INJ hz
      obtain ⟨w, sc1, rfl, ⟨h1, rfl⟩, hs1⟩ := zsr_cons hs
      exact zx_slen hx hb hK hh h1 hd (fun w hw => kp _ _ rfl rfl hl ⟨hw, hs1⟩)
    · cases hz
  | new j =>
    obtain rfl : n = 3 := by simpa [zlen] using hn
    simp only [zex] at hz
    split at hz
    · rename_i t f hv
      split at hz
      · rename_i hg
        obtain ⟨rfl, rfl, rfl, rfl, rfl⟩ := INJ hz
        have h1 := znchk_all _ (zlk_mem hv)
        have hi : j < 10000 := hi
        have e1 : zkey ci j / 10000 = ci := by unfold zkey; omega
        have e2 : zkey ci j % 10000 = j := by unfold zkey; omega
        unfold znchk at h1
        split at h1
        · rename_i pl pi pj hp
          simp only [e1, e2, decide_eq_true_eq] at h1
          rcases h1 with ⟨a1, a2, a3, a4, a5, a6⟩ | h1
          · rw [zcells_nu, zslots_nu] at hR
            refine zx_new hx hb hown hK hh hg.1 a1 a2 a3 a4 a5 a6 (by omega) (by omega) hd (fun H1 g1 => ?_)
            have := k H1 locs lc (zad E L.1.length :: sc) hl (show zsr E (_ :: st) (_ :: sc) from ⟨rfl, hs⟩) g1 ho
            rw [zcells_nu, zslots_nu] at this
            rw [show zcells L - c0 + 1 = zcells L + 1 - c0 by omega, show zslots L - s0 + f = zslots L + f - s0 by omega]
            exact this
          · omega
        · cases h1
      · cases hz
    · cases hz
  | newarray ty =>
    obtain rfl : n = 2 := by simpa [zlen] using hn
    simp only [zex] at hz
    split at hz
    · rename_i x r
      split at hz
      · rename_i hg
        split at hz
        · obtain ⟨rfl, rfl, rfl, rfl, rfl⟩ := INJ hz
          obtain ⟨w, sc1, rfl, ⟨v, rfl, rfl⟩, hs1⟩ := zsr_cons hs
          rw [zcells_nu, zslots_nu] at hR
          refine zx_newa (t := 20) hx hb hK hh hg.1 (by omega) rfl (hK.use 151 (by decide +kernel) rfl) hg.2.1 hg.2.2 (by omega) (by omega) hd (fun H1 g1 => ?_)
          have := k H1 locs lc (zad E L.1.length :: sc1) hl (show zsr E (_ :: r) (_ :: sc1) from ⟨rfl, hs1⟩) g1 ho
          rw [zcells_nu, zslots_nu] at this
          rw [show zcells L - c0 + 1 = zcells L + 1 - c0 by omega, show zslots L - s0 + v.toInt.toNat = zslots L + v.toInt.toNat - s0 by omega]
          exact this
        · obtain ⟨rfl, rfl, rfl, rfl, rfl⟩ := INJ hz
          obtain ⟨w, sc1, rfl, ⟨v, rfl, rfl⟩, hs1⟩ := zsr_cons hs
          rw [zcells_nu, zslots_nu] at hR
          refine zx_newa (t := 21) hx hb hK hh hg.1 (by omega) rfl (hK.use 313 (by decide +kernel) rfl) hg.2.1 hg.2.2 (by omega) (by omega) hd (fun H1 g1 => ?_)
          have := k H1 locs lc (zad E L.1.length :: sc1) hl (show zsr E (_ :: r) (_ :: sc1) from ⟨rfl, hs1⟩) g1 ho
          rw [zcells_nu, zslots_nu] at this
          rw [show zcells L - c0 + 1 = zcells L + 1 - c0 by omega, show zslots L - s0 + v.toInt.toNat = zslots L + v.toInt.toNat - s0 by omega]
          exact this
        · cases hz
      · cases hz
    · cases hz
  | multianewarray j dd =>
    by_cases hdim : dd = 2
    · subst hdim
      obtain rfl : n = 4 := by simpa [zlen] using hn
      simp only [zex] at hz
      split at hz
      · rename_i t f y x r hv
        split at hz
        · rename_i hg
          obtain ⟨rfl, rfl, rfl, rfl, rfl⟩ := INJ hz
          obtain ⟨w, sc1, rfl, ⟨u, rfl, rfl⟩, hs1⟩ := zsr_cons hs
          obtain ⟨w, sc1, rfl, ⟨v, rfl, rfl⟩, hs2⟩ := zsr_cons hs1
          have h1 := znchk_all _ (zlk_mem hv)
          have hi : j < 10000 := hi
          have e1 : zkey ci j / 10000 = ci := by unfold zkey; omega
          have e2 : zkey ci j % 10000 = j := by unfold zkey; omega
          unfold znchk at h1
          split at h1
          · rename_i pl pi pj hp
            simp only [e1, e2, decide_eq_true_eq] at h1
            rcases h1 with ⟨a1, a2, -⟩ | ⟨-, h1⟩
            · omega
            · rw [zcells_mna, zslots_mna] at hR
              have fin : ∀ (H1 : Heap), zhr E D cA H0 scr (L.1 ++ ((t, v.toInt.toNat) :: List.replicate v.toInt.toNat (t - 2, u.toInt.toNat)), L.2) (zmna m L.1.length v.toInt.toNat) H1 → W p l e R s mt args below meth c H1 locs (zcells L - c0 + 1 + v.toInt.toNat) (zslots L - s0 + v.toInt.toNat + v.toInt.toNat * u.toInt.toNat) Q (F0 mt (pc + 4) lc (zad E L.1.length :: sc1)) := fun H1 g1 => by
                have := k H1 locs lc (zad E L.1.length :: sc1) hl (show zsr E (_ :: r) (_ :: sc1) from ⟨rfl, hs2⟩) g1 ho
                rw [zcells_mna, zslots_mna] at this
                rw [show zcells L - c0 + 1 + v.toInt.toNat = zcells L + 1 + v.toInt.toNat - c0 by omega, show zslots L - s0 + v.toInt.toNat + v.toInt.toNat * u.toInt.toNat = zslots L + v.toInt.toNat + v.toInt.toNat * u.toInt.toNat - s0 by omega]
                exact this
              rcases hg.2.1 with ht | ht
              · subst ht
                exact zx_multi (t := 22) (po := 261) (pa := 151) hx hb hown hK hh hg.1 (Or.inl rfl) h1 (by decide +kernel) (by decide +kernel) rfl hg.2.2.1 hg.2.2.2.1 hg.2.2.2.2.1 hg.2.2.2.2.2 (by omega) (by omega) hd fin
              · subst ht
                exact zx_multi (t := 23) (po := 287) (pa := 313) hx hb hown hK hh hg.1 (Or.inr rfl) h1 (by decide +kernel) (by decide +kernel) rfl hg.2.2.1 hg.2.2.2.1 hg.2.2.2.2.1 hg.2.2.2.2.2 (by omega) (by omega) hd fin
          · cases h1
        · cases hz
      · cases hz
    · unfold zex at hz
      split at hz
      all_goals first | (rename_i h; cases h; done) | (rename_i h _ ; cases h; done) | (cases hz; done) | (rename_i h; cases h; exact absurd rfl hdim) | (rename_i h _; cases h; exact absurd rfl hdim) | (rename_i h _ _; cases h; exact absurd rfl hdim) | (simp_all; done)
  | invokevirtual j =>
    simp only [zex] at hz
    split at hz
    · simp only [zcall] at hz
      split at hz
      · split at hz
        · split at hz
          · simp at hz
          · cases hz
        · cases hz
      · cases hz
    · simp only [zcall] at hz
      split at hz
      · split at hz
        · simp at hz
        · cases hz
      · cases hz
    · cases hz
  | invokestatic j =>
    obtain rfl : n = 3 := by simpa [zlen] using hn
    simp only [zex] at hz
    split at hz
    · rename_i q a hv
      simp only [zcall] at hz
      split at hz
      · simp at hz
      · cases hz
    · rename_i q a hv
      simp only [zcall] at hz
      split at hz
      · rename_i hg
        simp only [Option.bind_eq_some_iff] at hz
        obtain ⟨⟨q1, q2, q3⟩, h1, hz⟩ := hz
        obtain ⟨rfl, rfl, rfl, rfl, rfl⟩ := INJ hz
        exact hT j q a pc st _ L _ m _ H locs lc sc hv hi hd (by omega) (by omega) hc0 hs0 hR (by rw [hml]; exact hl.1) hs hh ho h1 (fun H1 locs1 sc1 g1 g2 g3 => k H1 locs1 lc sc1 hl g1 g2 g3)
      · cases hz
    · rename_i q a hv
      simp only [zcall] at hz
      split at hz
      · rename_i y x r
        split at hz
        · rename_i hg
          obtain ⟨rfl, rfl, rfl, rfl, rfl⟩ := INJ hz
          obtain ⟨pl, h3⟩ := zcal6 hi hv
          have hsum := zsr_sum hs
          obtain ⟨w, sc1, rfl, ⟨u, rfl, rfl⟩, hs1⟩ := zsr_cons hs
          obtain ⟨w, sc1, rfl, ⟨v, rfl, rfl⟩, hs2⟩ := zsr_cons hs1
          have hs3 := zsr_sum hs2
          refine va_mmin hx hb (by rw [hml]; exact hl.1.symm) hown (hK.use pl h3 rfl) (hK.use 1029 (by decide +kernel) rfl) (hK.use 118 (by decide +kernel) rfl) (hK.use 1030 (by decide +kernel) rfl) (by omega) (by rw [hs3]; omega) hR.1 hR.2 hd (kp _ _ rfl rfl hl ⟨⟨_, rfl, ?_⟩, hs2⟩)
          by_cases hlt : u < v
          · rw [if_pos hlt, if_pos (z_lt.mpr hlt)]
          · rw [if_neg hlt, if_neg (fun q => hlt (z_lt.mp q))]
        · cases hz
      · cases hz
    · cases hz
  | invokespecial j =>
    obtain rfl : n = 3 := by simpa [zlen] using hn
    simp only [zex] at hz
    split at hz
    · rename_i q a hv
      simp only [zcall] at hz
      split at hz
      · split at hz
        · split at hz
          · simp at hz
          · cases hz
        · cases hz
      · cases hz
    · rename_i q a hv
      simp only [zcall] at hz
      split at hz
      · rename_i a2 r
        split at hz
        · rename_i hg
          obtain ⟨rfl, rfl, rfl, rfl, rfl⟩ := INJ hz
          obtain ⟨pl, h3⟩ := zcal3 hi hv
          obtain ⟨w, sc1, rfl, h1, hs1⟩ := zsr_cons hs
          have h1 : w = zad E a2 := h1
          rw [zad_two hg.1] at h1
          subst h1
          have hs3 := zsr_sum hs1
          exact W.objInit hx hb hown (hK.use pl h3 rfl) (hK.use 129 (by decide +kernel) rfl) (hK.use 130 (by decide +kernel) rfl) rfl (by rw [hml]; exact hl.1) rfl hd (by omega) (by show 2 * 0 + _ + 12 ≤ _; rw [hs3]; omega) (kp _ _ rfl rfl hl hs1)
        · cases hz
      · cases hz
    · cases hz
  | ireturn =>
    simp only [zex] at hz
    split at hz
    · split at hz
      · simp at hz
      · cases hz
    · cases hz
  | lreturn =>
    simp only [zex] at hz
    split at hz
    · split at hz
      · simp at hz
      · cases hz
    · cases hz
  | areturn =>
    simp only [zex] at hz
    split at hz
    · split at hz
      · simp at hz
      · cases hz
    · cases hz
  | return_ =>
    simp only [zex] at hz
    split at hz
    · split at hz
      · simp at hz
      · cases hz
    · cases hz
  | _ => cases hz
end ZG
