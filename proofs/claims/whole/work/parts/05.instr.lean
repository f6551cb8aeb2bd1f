section ZB
variable {p : Program} {l : Launch} {e : Env} {R : Room} {s : State} {mt : MethodId} {args : Array Value} {below : List Frame} {meth : Method} {c : Code} {H : Heap} {locs : List Loc} {cells slots : Nat} {Q : State → Prop} {E : zE} {nL : Nat} {cc : ByteArray} {pc : Nat} {lc : Array Slot} {sc : List Value} {ls st ls' st' : List zV} {L L' : zY} {m m' : zM} {pc' : Nat}

theorem z_ref {E : zE} {a : Nat} {w : Value} (h : zvr E (.inr (.inr (.inl a))) w) : w = .null ∨ ∃ q, w = .ref q := by
  have h : w = zad E a := h
  unfold zad at h
  split at h
  · exact Or.inl h
  · split at h
    · exact Or.inr ⟨_, h⟩
    · exact Or.inr ⟨_, h⟩
theorem z_ref2 {E : zE} {t j : Nat} {w : Value} (h : zvr E (.inr (.inr (.inr (t, j)))) w) : w = .null ∨ ∃ q, w = .ref q := by
  match t, h with
  | 0, h => exact Or.inr ⟨_, h.2⟩
  | 1, h => exact Or.inr ⟨_, h.2⟩
  | 2, h => exact h
  | t + 3, h => exact h.elim

theorem z_eq {i j : Int32} : i.toInt = j.toInt ↔ i = j := Int32.toInt_inj
theorem z_lt {i j : Int32} : i.toInt < j.toInt ↔ i < j := Int32.lt_iff_toInt_lt.symm
theorem z_le {i j : Int32} : i.toInt ≤ j.toInt ↔ i ≤ j := Int32.le_iff_toInt_le.symm

theorem Int32.toInt_toNat_of_nonneg_z {i : Int32} (h : 0 ≤ i.toInt) : i.toUInt32.toNat = i.toInt.toNat := by
  have h1 : i.toInt = i.toBitVec.toInt := rfl
  have h2 : i.toUInt32.toNat = i.toBitVec.toNat := rfl
  rw [h2, h1]
  rw [h1] at h
  rw [BitVec.toInt_eq_toNat_cond] at h ⊢
  split at h
  · rw [if_pos (by assumption)]; simp
  · have := i.toBitVec.isLt
    omega

theorem z_i2c {i : Int32} (h : 0 ≤ i.toInt ∧ i.toInt < 65536) : (i.toUInt32 % 65536).toInt32 = i := by
  apply Int32.toInt_inj.mp
  have h1 : i.toUInt32.toNat = i.toInt.toNat := by
    have := Int32.toInt_toNat_of_nonneg_z h.1
    exact this
  have h2 : (i.toUInt32 % 65536).toNat = i.toInt.toNat := by
    rw [UInt32.toNat_mod, h1]
    show i.toInt.toNat % 65536 = _
    omega
  have h3 : (i.toUInt32 % 65536) = i.toUInt32 := UInt32.toNat_inj.mp (by rw [h2, h1])
  rw [h3]
  simp

theorem zx_iload {i : Nat} (hx : p.tables.exec = Jvm.exec) (hb : c.code = cc) (hd : decode cc pc = .ok (.iload i, 2)) (hl : zlr E nL ls lc) (hs : zsr E st sc) (hz : zld 0 (pc + 2) ls st i L m = some (.inl (pc', ls', st', L', m')))
    (k : ∀ (lc' : Array Slot) (sc' : List Value), L' = L → m' = m → zlr E nL ls' lc' → zsr E st' sc' → W p l e R s mt args below meth c H locs cells slots Q (F0 mt pc' lc' sc')) : W p l e R s mt args below meth c H locs cells slots Q (F0 mt pc lc sc) := by
  rcases hg : ls.getD i zU with x | x | a | ⟨tt, jj⟩ <;> simp only [zld, hg, reduceCtorEq] at hz
  · simp only [zgo, Option.some.injEq, Sum.inl.injEq, Prod.mk.injEq] at hz
    obtain ⟨rfl, rfl, rfl, rfl, rfl⟩ := hz
    obtain ⟨w, h1, q, rfl, rfl⟩ := zlr_get hl hg (by intro h; cases h)
    exact lv_iload hx hb hd h1 (k _ _ rfl rfl hl ⟨⟨q, rfl, rfl⟩, hs⟩)

theorem zx_iload_n {j : Fin 4} (hx : p.tables.exec = Jvm.exec) (hb : c.code = cc) (hd : decode cc pc = .ok (.iload_n j, 1)) (hl : zlr E nL ls lc) (hs : zsr E st sc) (hz : zld 0 (pc + 1) ls st (j : Nat) L m = some (.inl (pc', ls', st', L', m')))
    (k : ∀ (lc' : Array Slot) (sc' : List Value), L' = L → m' = m → zlr E nL ls' lc' → zsr E st' sc' → W p l e R s mt args below meth c H locs cells slots Q (F0 mt pc' lc' sc')) : W p l e R s mt args below meth c H locs cells slots Q (F0 mt pc lc sc) := by
  rcases hg : ls.getD (j : Nat) zU with x | x | a | ⟨tt, jj⟩ <;> simp only [zld, hg, reduceCtorEq] at hz
  · simp only [zgo, Option.some.injEq, Sum.inl.injEq, Prod.mk.injEq] at hz
    obtain ⟨rfl, rfl, rfl, rfl, rfl⟩ := hz
    obtain ⟨w, h1, q, rfl, rfl⟩ := zlr_get hl hg (by intro h; cases h)
    exact lv_iload_n hx hb hd rfl h1 (k _ _ rfl rfl hl ⟨⟨q, rfl, rfl⟩, hs⟩)

theorem zx_lload {i : Nat} (hx : p.tables.exec = Jvm.exec) (hb : c.code = cc) (hd : decode cc pc = .ok (.lload i, 2)) (hl : zlr E nL ls lc) (hs : zsr E st sc) (hz : zld 1 (pc + 2) ls st i L m = some (.inl (pc', ls', st', L', m')))
    (k : ∀ (lc' : Array Slot) (sc' : List Value), L' = L → m' = m → zlr E nL ls' lc' → zsr E st' sc' → W p l e R s mt args below meth c H locs cells slots Q (F0 mt pc' lc' sc')) : W p l e R s mt args below meth c H locs cells slots Q (F0 mt pc lc sc) := by
  rcases hg : ls.getD i zU with x | x | a | ⟨tt, jj⟩ <;> simp only [zld, hg, reduceCtorEq] at hz
  · simp only [zgo, Option.some.injEq, Sum.inl.injEq, Prod.mk.injEq] at hz
    obtain ⟨rfl, rfl, rfl, rfl, rfl⟩ := hz
    obtain ⟨w, h1, q, rfl, rfl⟩ := zlr_get hl hg (by intro h; cases h)
    exact lv_lload hx hb hd h1 (k _ _ rfl rfl hl ⟨⟨q, rfl, rfl⟩, hs⟩)

theorem zx_lload_n {j : Fin 4} (hx : p.tables.exec = Jvm.exec) (hb : c.code = cc) (hd : decode cc pc = .ok (.lload_n j, 1)) (hl : zlr E nL ls lc) (hs : zsr E st sc) (hz : zld 1 (pc + 1) ls st (j : Nat) L m = some (.inl (pc', ls', st', L', m')))
    (k : ∀ (lc' : Array Slot) (sc' : List Value), L' = L → m' = m → zlr E nL ls' lc' → zsr E st' sc' → W p l e R s mt args below meth c H locs cells slots Q (F0 mt pc' lc' sc')) : W p l e R s mt args below meth c H locs cells slots Q (F0 mt pc lc sc) := by
  rcases hg : ls.getD (j : Nat) zU with x | x | a | ⟨tt, jj⟩ <;> simp only [zld, hg, reduceCtorEq] at hz
  · simp only [zgo, Option.some.injEq, Sum.inl.injEq, Prod.mk.injEq] at hz
    obtain ⟨rfl, rfl, rfl, rfl, rfl⟩ := hz
    obtain ⟨w, h1, q, rfl, rfl⟩ := zlr_get hl hg (by intro h; cases h)
    exact lv_lload_n hx hb hd rfl h1 (k _ _ rfl rfl hl ⟨⟨q, rfl, rfl⟩, hs⟩)

theorem zx_aload {i : Nat} (hx : p.tables.exec = Jvm.exec) (hb : c.code = cc) (hd : decode cc pc = .ok (.aload i, 2)) (hl : zlr E nL ls lc) (hs : zsr E st sc) (hz : zld 2 (pc + 2) ls st i L m = some (.inl (pc', ls', st', L', m')))
    (k : ∀ (lc' : Array Slot) (sc' : List Value), L' = L → m' = m → zlr E nL ls' lc' → zsr E st' sc' → W p l e R s mt args below meth c H locs cells slots Q (F0 mt pc' lc' sc')) : W p l e R s mt args below meth c H locs cells slots Q (F0 mt pc lc sc) := by
  rcases hg : ls.getD i zU with x | x | a | ⟨tt, jj⟩ <;> simp only [zld, hg, reduceCtorEq] at hz
  · simp only [zgo, Option.some.injEq, Sum.inl.injEq, Prod.mk.injEq] at hz
    obtain ⟨rfl, rfl, rfl, rfl, rfl⟩ := hz
    obtain ⟨w, h1, h2⟩ := zlr_get hl hg (by intro h; cases h)
    rcases z_ref h2 with e | ⟨q, e⟩
    · subst e; exact lv_aloadN hx hb hd h1 (k _ _ rfl rfl hl ⟨h2, hs⟩)
    · subst e; exact lv_aload hx hb hd h1 (k _ _ rfl rfl hl ⟨h2, hs⟩)
  · split at hz
    · rename_i ht
      simp only [zgo, Option.some.injEq, Sum.inl.injEq, Prod.mk.injEq] at hz
      obtain ⟨rfl, rfl, rfl, rfl, rfl⟩ := hz
      obtain ⟨w, h1, h2⟩ := zlr_get hl hg (by intro h; cases h; omega)
      rcases z_ref2 h2 with e | ⟨q, e⟩
      · subst e; exact lv_aloadN hx hb hd h1 (k _ _ rfl rfl hl ⟨h2, hs⟩)
      · subst e; exact lv_aload hx hb hd h1 (k _ _ rfl rfl hl ⟨h2, hs⟩)
    · cases hz

theorem zx_aload_n {j : Fin 4} (hx : p.tables.exec = Jvm.exec) (hb : c.code = cc) (hd : decode cc pc = .ok (.aload_n j, 1)) (hl : zlr E nL ls lc) (hs : zsr E st sc) (hz : zld 2 (pc + 1) ls st (j : Nat) L m = some (.inl (pc', ls', st', L', m')))
    (k : ∀ (lc' : Array Slot) (sc' : List Value), L' = L → m' = m → zlr E nL ls' lc' → zsr E st' sc' → W p l e R s mt args below meth c H locs cells slots Q (F0 mt pc' lc' sc')) : W p l e R s mt args below meth c H locs cells slots Q (F0 mt pc lc sc) := by
  rcases hg : ls.getD (j : Nat) zU with x | x | a | ⟨tt, jj⟩ <;> simp only [zld, hg, reduceCtorEq] at hz
  · simp only [zgo, Option.some.injEq, Sum.inl.injEq, Prod.mk.injEq] at hz
    obtain ⟨rfl, rfl, rfl, rfl, rfl⟩ := hz
    obtain ⟨w, h1, h2⟩ := zlr_get hl hg (by intro h; cases h)
    rcases z_ref h2 with e | ⟨q, e⟩
    · subst e; exact lv_aload_nN hx hb hd rfl h1 (k _ _ rfl rfl hl ⟨h2, hs⟩)
    · subst e; exact lv_aload_n hx hb hd rfl h1 (k _ _ rfl rfl hl ⟨h2, hs⟩)
  · split at hz
    · rename_i ht
      simp only [zgo, Option.some.injEq, Sum.inl.injEq, Prod.mk.injEq] at hz
      obtain ⟨rfl, rfl, rfl, rfl, rfl⟩ := hz
      obtain ⟨w, h1, h2⟩ := zlr_get hl hg (by intro h; cases h; omega)
      rcases z_ref2 h2 with e | ⟨q, e⟩
      · subst e; exact lv_aload_nN hx hb hd rfl h1 (k _ _ rfl rfl hl ⟨h2, hs⟩)
      · subst e; exact lv_aload_n hx hb hd rfl h1 (k _ _ rfl rfl hl ⟨h2, hs⟩)
    · cases hz

theorem zx_istore {i : Nat} (hx : p.tables.exec = Jvm.exec) (hb : c.code = cc) (hd : decode cc pc = .ok (.istore i, 2)) (hl : zlr E nL ls lc) (hs : zsr E st sc) (hz : zsto 0 (pc + 2) ls st i L m = some (.inl (pc', ls', st', L', m')))
    (k : ∀ (lc' : Array Slot) (sc' : List Value), L' = L → m' = m → zlr E nL ls' lc' → zsr E st' sc' → W p l e R s mt args below meth c H locs cells slots Q (F0 mt pc' lc' sc')) : W p l e R s mt args below meth c H locs cells slots Q (F0 mt pc lc sc) := by
  rcases st with _ | ⟨v, r⟩
  · simp only [zsto, reduceCtorEq] at hz
  rcases v with x | x | x | ⟨tt, jj⟩ <;> simp only [zsto, reduceCtorEq, Option.bind_eq_some_iff] at hz
  obtain ⟨ls1, hz1, hz⟩ := hz
  simp only [zgo, Option.some.injEq, Sum.inl.injEq, Prod.mk.injEq] at hz
  obtain ⟨rfl, rfl, rfl, rfl, rfl⟩ := hz
  obtain ⟨w, sc1, rfl, h1, hs1⟩ := zsr_cons hs
  obtain ⟨q, rfl, rfl⟩ := h1
  exact lv_istore hx hb hd (zlr_has hl) (by rw [← hl.2.1]; exact zst_lt hz1) rfl (fun lc' h' => k _ _ rfl rfl (zlr_st1 hl hz1 ⟨q, rfl, rfl⟩ h') hs1)

theorem zx_istore_n {j : Fin 4} (hx : p.tables.exec = Jvm.exec) (hb : c.code = cc) (hd : decode cc pc = .ok (.istore_n j, 1)) (hl : zlr E nL ls lc) (hs : zsr E st sc) (hz : zsto 0 (pc + 1) ls st (j : Nat) L m = some (.inl (pc', ls', st', L', m')))
    (k : ∀ (lc' : Array Slot) (sc' : List Value), L' = L → m' = m → zlr E nL ls' lc' → zsr E st' sc' → W p l e R s mt args below meth c H locs cells slots Q (F0 mt pc' lc' sc')) : W p l e R s mt args below meth c H locs cells slots Q (F0 mt pc lc sc) := by
  rcases st with _ | ⟨v, r⟩
  · simp only [zsto, reduceCtorEq] at hz
  rcases v with x | x | x | ⟨tt, jj⟩ <;> simp only [zsto, reduceCtorEq, Option.bind_eq_some_iff] at hz
  obtain ⟨ls1, hz1, hz⟩ := hz
  simp only [zgo, Option.some.injEq, Sum.inl.injEq, Prod.mk.injEq] at hz
  obtain ⟨rfl, rfl, rfl, rfl, rfl⟩ := hz
  obtain ⟨w, sc1, rfl, h1, hs1⟩ := zsr_cons hs
  obtain ⟨q, rfl, rfl⟩ := h1
  exact lv_istore_n hx hb hd rfl (zlr_has hl) (by rw [← hl.2.1]; exact zst_lt hz1) rfl (fun lc' h' => k _ _ rfl rfl (zlr_st1 hl hz1 ⟨q, rfl, rfl⟩ h') hs1)

theorem zx_lstore {i : Nat} (hx : p.tables.exec = Jvm.exec) (hb : c.code = cc) (hd : decode cc pc = .ok (.lstore i, 2)) (hl : zlr E nL ls lc) (hs : zsr E st sc) (hz : zsto 1 (pc + 2) ls st i L m = some (.inl (pc', ls', st', L', m')))
    (k : ∀ (lc' : Array Slot) (sc' : List Value), L' = L → m' = m → zlr E nL ls' lc' → zsr E st' sc' → W p l e R s mt args below meth c H locs cells slots Q (F0 mt pc' lc' sc')) : W p l e R s mt args below meth c H locs cells slots Q (F0 mt pc lc sc) := by
  rcases st with _ | ⟨v, r⟩
  · simp only [zsto, reduceCtorEq] at hz
  rcases v with x | x | x | ⟨tt, jj⟩ <;> simp only [zsto, reduceCtorEq, Option.bind_eq_some_iff] at hz
  obtain ⟨ls1, hz1, hz⟩ := hz
  simp only [zgo, Option.some.injEq, Sum.inl.injEq, Prod.mk.injEq] at hz
  obtain ⟨rfl, rfl, rfl, rfl, rfl⟩ := hz
  obtain ⟨w, sc1, rfl, h1, hs1⟩ := zsr_cons hs
  obtain ⟨q, rfl, rfl⟩ := h1
  exact lv_lstore hx hb hd (zlr_has hl) (by rw [← hl.2.1]; exact zstl_lt hz1) rfl (fun lc' h' => k _ _ rfl rfl (zlr_st2 hl hz1 ⟨q, rfl, rfl⟩ h') hs1)

theorem zx_lstore_n {j : Fin 4} (hx : p.tables.exec = Jvm.exec) (hb : c.code = cc) (hd : decode cc pc = .ok (.lstore_n j, 1)) (hl : zlr E nL ls lc) (hs : zsr E st sc) (hz : zsto 1 (pc + 1) ls st (j : Nat) L m = some (.inl (pc', ls', st', L', m')))
    (k : ∀ (lc' : Array Slot) (sc' : List Value), L' = L → m' = m → zlr E nL ls' lc' → zsr E st' sc' → W p l e R s mt args below meth c H locs cells slots Q (F0 mt pc' lc' sc')) : W p l e R s mt args below meth c H locs cells slots Q (F0 mt pc lc sc) := by
  rcases st with _ | ⟨v, r⟩
  · simp only [zsto, reduceCtorEq] at hz
  rcases v with x | x | x | ⟨tt, jj⟩ <;> simp only [zsto, reduceCtorEq, Option.bind_eq_some_iff] at hz
  obtain ⟨ls1, hz1, hz⟩ := hz
  simp only [zgo, Option.some.injEq, Sum.inl.injEq, Prod.mk.injEq] at hz
  obtain ⟨rfl, rfl, rfl, rfl, rfl⟩ := hz
  obtain ⟨w, sc1, rfl, h1, hs1⟩ := zsr_cons hs
  obtain ⟨q, rfl, rfl⟩ := h1
  exact lv_lstore_n hx hb hd rfl (zlr_has hl) (by rw [← hl.2.1]; exact zstl_lt hz1) rfl (fun lc' h' => k _ _ rfl rfl (zlr_st2 hl hz1 ⟨q, rfl, rfl⟩ h') hs1)

theorem zx_astore {i : Nat} (hx : p.tables.exec = Jvm.exec) (hb : c.code = cc) (hd : decode cc pc = .ok (.astore i, 2)) (hl : zlr E nL ls lc) (hs : zsr E st sc) (hz : zsto 2 (pc + 2) ls st i L m = some (.inl (pc', ls', st', L', m')))
    (k : ∀ (lc' : Array Slot) (sc' : List Value), L' = L → m' = m → zlr E nL ls' lc' → zsr E st' sc' → W p l e R s mt args below meth c H locs cells slots Q (F0 mt pc' lc' sc')) : W p l e R s mt args below meth c H locs cells slots Q (F0 mt pc lc sc) := by
  rcases st with _ | ⟨v, r⟩
  · simp only [zsto, reduceCtorEq] at hz
  rcases v with x | x | x | ⟨tt, jj⟩ <;> simp only [zsto, reduceCtorEq, Option.bind_eq_some_iff] at hz
  obtain ⟨ls1, hz1, hz⟩ := hz
  simp only [zgo, Option.some.injEq, Sum.inl.injEq, Prod.mk.injEq] at hz
  obtain ⟨rfl, rfl, rfl, rfl, rfl⟩ := hz
  obtain ⟨w, sc1, rfl, h1, hs1⟩ := zsr_cons hs
  rcases z_ref h1 with e | ⟨q, e⟩
  · subst e; exact lv_astoreN hx hb hd (zlr_has hl) (by rw [← hl.2.1]; exact zst_lt hz1) rfl (fun lc' h' => k _ _ rfl rfl (zlr_st1 hl hz1 h1 h') hs1)
  · subst e; exact lv_astore hx hb hd (zlr_has hl) (by rw [← hl.2.1]; exact zst_lt hz1) rfl (fun lc' h' => k _ _ rfl rfl (zlr_st1 hl hz1 h1 h') hs1)

theorem zx_astore_n {j : Fin 4} (hx : p.tables.exec = Jvm.exec) (hb : c.code = cc) (hd : decode cc pc = .ok (.astore_n j, 1)) (hl : zlr E nL ls lc) (hs : zsr E st sc) (hz : zsto 2 (pc + 1) ls st (j : Nat) L m = some (.inl (pc', ls', st', L', m')))
    (k : ∀ (lc' : Array Slot) (sc' : List Value), L' = L → m' = m → zlr E nL ls' lc' → zsr E st' sc' → W p l e R s mt args below meth c H locs cells slots Q (F0 mt pc' lc' sc')) : W p l e R s mt args below meth c H locs cells slots Q (F0 mt pc lc sc) := by
  rcases st with _ | ⟨v, r⟩
  · simp only [zsto, reduceCtorEq] at hz
  rcases v with x | x | x | ⟨tt, jj⟩ <;> simp only [zsto, reduceCtorEq, Option.bind_eq_some_iff] at hz
  obtain ⟨ls1, hz1, hz⟩ := hz
  simp only [zgo, Option.some.injEq, Sum.inl.injEq, Prod.mk.injEq] at hz
  obtain ⟨rfl, rfl, rfl, rfl, rfl⟩ := hz
  obtain ⟨w, sc1, rfl, h1, hs1⟩ := zsr_cons hs
  rcases z_ref h1 with e | ⟨q, e⟩
  · subst e; exact lv_astore_nN hx hb hd rfl (zlr_has hl) (by rw [← hl.2.1]; exact zst_lt hz1) rfl (fun lc' h' => k _ _ rfl rfl (zlr_st1 hl hz1 h1 h') hs1)
  · subst e; exact lv_astore_n hx hb hd rfl (zlr_has hl) (by rw [← hl.2.1]; exact zst_lt hz1) rfl (fun lc' h' => k _ _ rfl rfl (zlr_st1 hl hz1 h1 h') hs1)

theorem zx_iinc {i : Nat} {d x : Int} (hx : p.tables.exec = Jvm.exec) (hb : c.code = cc) (hd : decode cc pc = .ok (.iinc i d, 3)) (hl : zlr E nL ls lc) (hs : zsr E st sc) (hg : ls.getD i zU = .inl x) (hr : -128 ≤ d ∧ d < 128) (hz : ((zst ls i (.inl (zwr (x + d)))).bind fun ls => zgo (pc + 3) ls st L m) = some (.inl (pc', ls', st', L', m')))
    (k : ∀ (lc' : Array Slot) (sc' : List Value), L' = L → m' = m → zlr E nL ls' lc' → zsr E st' sc' → W p l e R s mt args below meth c H locs cells slots Q (F0 mt pc' lc' sc')) : W p l e R s mt args below meth c H locs cells slots Q (F0 mt pc lc sc) := by
  simp only [Option.bind_eq_some_iff] at hz
  obtain ⟨ls1, hz1, hz⟩ := hz
  simp only [zgo, Option.some.injEq, Sum.inl.injEq, Prod.mk.injEq] at hz
  obtain ⟨rfl, rfl, rfl, rfl, rfl⟩ := hz
  obtain ⟨w, h1, q, rfl, rfl⟩ := zlr_get hl hg (by intro h; cases h)
  have hi : i < ls.length := zst_lt hz1
  have hm : (i, Value.int q) ∈ zlv lc ls := zlv_mem.mpr ⟨hi, h1, by rw [hg]; intro h; cases h⟩
  obtain ⟨kk, hkk⟩ := List.getElem?_of_mem hm
  refine lv_iinc (v := q + Int32.ofInt d) hx hb hd (zlr_has hl) hkk rfl (by rw [← hl.2.1]; exact hi) rfl (fun lc' h' => k _ _ rfl rfl (zlr_st1 hl hz1 ⟨_, rfl, ?_⟩ h') hs)
  rw [zwr_add, z_toInt32 (by omega)]

theorem z_c8 {d : Int} (h : -128 ≤ d ∧ d < 128) : ((Int8.ofInt d).toInt32).toInt = d := by
  rw [Int8.toInt_toInt32]; exact Int8.toInt_ofInt_of_le h.1 h.2

theorem z_c16 {d : Int} (h : -32768 ≤ d ∧ d < 32768) : ((Int16.ofInt d).toInt32).toInt = d := by
  rw [Int16.toInt_toInt32]; exact Int16.toInt_ofInt_of_le h.1 h.2

theorem zx_iconst {d : Int} (hx : p.tables.exec = Jvm.exec) (hb : c.code = cc) (hd : decode cc pc = .ok (.iconst d, 1)) (hl : zlr E nL ls lc) (hs : zsr E st sc) (hz : (if -128 ≤ d ∧ d < 128 then zgo (pc + 1) ls (.inl d :: st) L m else none) = some (.inl (pc', ls', st', L', m')))
    (k : ∀ (lc' : Array Slot) (sc' : List Value), L' = L → m' = m → zlr E nL ls' lc' → zsr E st' sc' → W p l e R s mt args below meth c H locs cells slots Q (F0 mt pc' lc' sc')) : W p l e R s mt args below meth c H locs cells slots Q (F0 mt pc lc sc) := by
  split at hz
  · rename_i hr
    simp only [zgo, Option.some.injEq, Sum.inl.injEq, Prod.mk.injEq] at hz
    obtain ⟨rfl, rfl, rfl, rfl, rfl⟩ := hz
    exact lv_iconst hx hb hd rfl (k _ _ rfl rfl hl ⟨⟨_, rfl, z_toInt32 (by omega)⟩, hs⟩)
  · cases hz

theorem zx_bipush {d : Int} (hx : p.tables.exec = Jvm.exec) (hb : c.code = cc) (hd : decode cc pc = .ok (.bipush d, 2)) (hl : zlr E nL ls lc) (hs : zsr E st sc) (hz : (if -128 ≤ d ∧ d < 128 then zgo (pc + 2) ls (.inl d :: st) L m else none) = some (.inl (pc', ls', st', L', m')))
    (k : ∀ (lc' : Array Slot) (sc' : List Value), L' = L → m' = m → zlr E nL ls' lc' → zsr E st' sc' → W p l e R s mt args below meth c H locs cells slots Q (F0 mt pc' lc' sc')) : W p l e R s mt args below meth c H locs cells slots Q (F0 mt pc lc sc) := by
  split at hz
  · rename_i hr
    simp only [zgo, Option.some.injEq, Sum.inl.injEq, Prod.mk.injEq] at hz
    obtain ⟨rfl, rfl, rfl, rfl, rfl⟩ := hz
    exact lv_bipush hx hb hd rfl (k _ _ rfl rfl hl ⟨⟨_, rfl, z_c8 hr⟩, hs⟩)
  · cases hz

theorem zx_sipush {d : Int} (hx : p.tables.exec = Jvm.exec) (hb : c.code = cc) (hd : decode cc pc = .ok (.sipush d, 3)) (hl : zlr E nL ls lc) (hs : zsr E st sc) (hz : (if -32768 ≤ d ∧ d < 32768 then zgo (pc + 3) ls (.inl d :: st) L m else none) = some (.inl (pc', ls', st', L', m')))
    (k : ∀ (lc' : Array Slot) (sc' : List Value), L' = L → m' = m → zlr E nL ls' lc' → zsr E st' sc' → W p l e R s mt args below meth c H locs cells slots Q (F0 mt pc' lc' sc')) : W p l e R s mt args below meth c H locs cells slots Q (F0 mt pc lc sc) := by
  split at hz
  · rename_i hr
    simp only [zgo, Option.some.injEq, Sum.inl.injEq, Prod.mk.injEq] at hz
    obtain ⟨rfl, rfl, rfl, rfl, rfl⟩ := hz
    exact lv_sipush hx hb hd rfl (k _ _ rfl rfl hl ⟨⟨_, rfl, z_c16 hr⟩, hs⟩)
  · cases hz

theorem zx_lconst {d : Fin 2} (hx : p.tables.exec = Jvm.exec) (hb : c.code = cc) (hd : decode cc pc = .ok (.lconst d, 1)) (hl : zlr E nL ls lc) (hs : zsr E st sc) (hz : zgo (pc + 1) ls (.inr (.inl ((d : Nat) : Int)) :: st) L m = some (.inl (pc', ls', st', L', m')))
    (k : ∀ (lc' : Array Slot) (sc' : List Value), L' = L → m' = m → zlr E nL ls' lc' → zsr E st' sc' → W p l e R s mt args below meth c H locs cells slots Q (F0 mt pc' lc' sc')) : W p l e R s mt args below meth c H locs cells slots Q (F0 mt pc lc sc) := by
  simp only [zgo, Option.some.injEq, Sum.inl.injEq, Prod.mk.injEq] at hz
  obtain ⟨rfl, rfl, rfl, rfl, rfl⟩ := hz
  exact lv_lconst hx hb hd rfl (k _ _ rfl rfl hl ⟨⟨_, rfl, Int64.toInt_ofNat_of_lt (by omega)⟩, hs⟩)

theorem zx_null (hx : p.tables.exec = Jvm.exec) (hb : c.code = cc) (hd : decode cc pc = .ok (.aconst_null, 1)) (hl : zlr E nL ls lc) (hs : zsr E st sc) (hz : zgo (pc + 1) ls (.inr (.inr (.inl 0)) :: st) L m = some (.inl (pc', ls', st', L', m')))
    (k : ∀ (lc' : Array Slot) (sc' : List Value), L' = L → m' = m → zlr E nL ls' lc' → zsr E st' sc' → W p l e R s mt args below meth c H locs cells slots Q (F0 mt pc' lc' sc')) : W p l e R s mt args below meth c H locs cells slots Q (F0 mt pc lc sc) := by
  simp only [zgo, Option.some.injEq, Sum.inl.injEq, Prod.mk.injEq] at hz
  obtain ⟨rfl, rfl, rfl, rfl, rfl⟩ := hz
  exact lv_null hx hb hd (k _ _ rfl rfl hl ⟨rfl, hs⟩)

theorem zx_iadd (hx : p.tables.exec = Jvm.exec) (hb : c.code = cc) (hd : decode cc pc = .ok (.iadd, 1)) (hl : zlr E nL ls lc) (hs : zsr E st sc) (hz : zbin (fun x y => zwr (x + y)) (pc + 1) ls st L m = some (.inl (pc', ls', st', L', m')))
    (k : ∀ (lc' : Array Slot) (sc' : List Value), L' = L → m' = m → zlr E nL ls' lc' → zsr E st' sc' → W p l e R s mt args below meth c H locs cells slots Q (F0 mt pc' lc' sc')) : W p l e R s mt args below meth c H locs cells slots Q (F0 mt pc lc sc) := by
  unfold zbin at hz
  split at hz
  · rename_i y x r
    simp only [zgo, Option.some.injEq, Sum.inl.injEq, Prod.mk.injEq] at hz
    obtain ⟨rfl, rfl, rfl, rfl, rfl⟩ := hz
    obtain ⟨w, sc1, rfl, ⟨i, rfl, rfl⟩, hs1⟩ := zsr_cons hs
    obtain ⟨w, sc1, rfl, ⟨j, rfl, rfl⟩, hs2⟩ := zsr_cons hs1
    exact lv_iadd hx hb hd (k _ _ rfl rfl hl ⟨⟨_, rfl, zwr_add _ _⟩, hs2⟩)
  · cases hz

theorem zx_isub (hx : p.tables.exec = Jvm.exec) (hb : c.code = cc) (hd : decode cc pc = .ok (.isub, 1)) (hl : zlr E nL ls lc) (hs : zsr E st sc) (hz : zbin (fun x y => zwr (x - y)) (pc + 1) ls st L m = some (.inl (pc', ls', st', L', m')))
    (k : ∀ (lc' : Array Slot) (sc' : List Value), L' = L → m' = m → zlr E nL ls' lc' → zsr E st' sc' → W p l e R s mt args below meth c H locs cells slots Q (F0 mt pc' lc' sc')) : W p l e R s mt args below meth c H locs cells slots Q (F0 mt pc lc sc) := by
  unfold zbin at hz
  split at hz
  · rename_i y x r
    simp only [zgo, Option.some.injEq, Sum.inl.injEq, Prod.mk.injEq] at hz
    obtain ⟨rfl, rfl, rfl, rfl, rfl⟩ := hz
    obtain ⟨w, sc1, rfl, ⟨i, rfl, rfl⟩, hs1⟩ := zsr_cons hs
    obtain ⟨w, sc1, rfl, ⟨j, rfl, rfl⟩, hs2⟩ := zsr_cons hs1
    exact lv_isub hx hb hd (k _ _ rfl rfl hl ⟨⟨_, rfl, zwr_sub _ _⟩, hs2⟩)
  · cases hz

theorem zx_imul (hx : p.tables.exec = Jvm.exec) (hb : c.code = cc) (hd : decode cc pc = .ok (.imul, 1)) (hl : zlr E nL ls lc) (hs : zsr E st sc) (hz : zbin (fun x y => zwr (x * y)) (pc + 1) ls st L m = some (.inl (pc', ls', st', L', m')))
    (k : ∀ (lc' : Array Slot) (sc' : List Value), L' = L → m' = m → zlr E nL ls' lc' → zsr E st' sc' → W p l e R s mt args below meth c H locs cells slots Q (F0 mt pc' lc' sc')) : W p l e R s mt args below meth c H locs cells slots Q (F0 mt pc lc sc) := by
  unfold zbin at hz
  split at hz
  · rename_i y x r
    simp only [zgo, Option.some.injEq, Sum.inl.injEq, Prod.mk.injEq] at hz
    obtain ⟨rfl, rfl, rfl, rfl, rfl⟩ := hz
    obtain ⟨w, sc1, rfl, ⟨i, rfl, rfl⟩, hs1⟩ := zsr_cons hs
    obtain ⟨w, sc1, rfl, ⟨j, rfl, rfl⟩, hs2⟩ := zsr_cons hs1
    exact lv_imul hx hb hd (k _ _ rfl rfl hl ⟨⟨_, rfl, zwr_mul _ _⟩, hs2⟩)
  · cases hz

theorem zx_iand (hx : p.tables.exec = Jvm.exec) (hb : c.code = cc) (hd : decode cc pc = .ok (.iand, 1)) (hl : zlr E nL ls lc) (hs : zsr E st sc) (hz : zbin zand (pc + 1) ls st L m = some (.inl (pc', ls', st', L', m')))
    (k : ∀ (lc' : Array Slot) (sc' : List Value), L' = L → m' = m → zlr E nL ls' lc' → zsr E st' sc' → W p l e R s mt args below meth c H locs cells slots Q (F0 mt pc' lc' sc')) : W p l e R s mt args below meth c H locs cells slots Q (F0 mt pc lc sc) := by
  unfold zbin at hz
  split at hz
  · rename_i y x r
    simp only [zgo, Option.some.injEq, Sum.inl.injEq, Prod.mk.injEq] at hz
    obtain ⟨rfl, rfl, rfl, rfl, rfl⟩ := hz
    obtain ⟨w, sc1, rfl, ⟨i, rfl, rfl⟩, hs1⟩ := zsr_cons hs
    obtain ⟨w, sc1, rfl, ⟨j, rfl, rfl⟩, hs2⟩ := zsr_cons hs1
    exact lv_iand hx hb hd (k _ _ rfl rfl hl ⟨⟨_, rfl, by rw [zand, z_ofInt32, z_ofInt32]⟩, hs2⟩)
  · cases hz

theorem zx_ishr (hx : p.tables.exec = Jvm.exec) (hb : c.code = cc) (hd : decode cc pc = .ok (.ishr, 1)) (hl : zlr E nL ls lc) (hs : zsr E st sc) (hz : zbin zshr (pc + 1) ls st L m = some (.inl (pc', ls', st', L', m')))
    (k : ∀ (lc' : Array Slot) (sc' : List Value), L' = L → m' = m → zlr E nL ls' lc' → zsr E st' sc' → W p l e R s mt args below meth c H locs cells slots Q (F0 mt pc' lc' sc')) : W p l e R s mt args below meth c H locs cells slots Q (F0 mt pc lc sc) := by
  unfold zbin at hz
  split at hz
  · rename_i y x r
    simp only [zgo, Option.some.injEq, Sum.inl.injEq, Prod.mk.injEq] at hz
    obtain ⟨rfl, rfl, rfl, rfl, rfl⟩ := hz
    obtain ⟨w, sc1, rfl, ⟨i, rfl, rfl⟩, hs1⟩ := zsr_cons hs
    obtain ⟨w, sc1, rfl, ⟨j, rfl, rfl⟩, hs2⟩ := zsr_cons hs1
    exact lv_ishr hx hb hd (k _ _ rfl rfl hl ⟨⟨_, rfl, by rw [zshr, z_ofInt32, z_ofInt32]⟩, hs2⟩)
  · cases hz

theorem zx_idiv {x y : Int} {r : List zV} (hx : p.tables.exec = Jvm.exec) (hb : c.code = cc) (hd : decode cc pc = .ok (.idiv, 1)) (hl : zlr E nL ls lc) (hs : zsr E (.inl y :: .inl x :: r) sc) (hz : (if y ≠ 0 then zgo (pc + 1) ls (.inl (zdiv x y) :: r) L m else none) = some (.inl (pc', ls', st', L', m')))
    (k : ∀ (lc' : Array Slot) (sc' : List Value), L' = L → m' = m → zlr E nL ls' lc' → zsr E st' sc' → W p l e R s mt args below meth c H locs cells slots Q (F0 mt pc' lc' sc')) : W p l e R s mt args below meth c H locs cells slots Q (F0 mt pc lc sc) := by
  split at hz
  · rename_i hne
    simp only [zgo, Option.some.injEq, Sum.inl.injEq, Prod.mk.injEq] at hz
    obtain ⟨rfl, rfl, rfl, rfl, rfl⟩ := hz
    obtain ⟨w, sc1, rfl, ⟨i, rfl, rfl⟩, hs1⟩ := zsr_cons hs
    obtain ⟨w, sc1, rfl, ⟨j, rfl, rfl⟩, hs2⟩ := zsr_cons hs1
    exact lv_idiv hx hb hd (fun q => hne (by rw [q]; rfl)) (k _ _ rfl rfl hl ⟨⟨_, rfl, by rw [zdiv, z_ofInt32, z_ofInt32]⟩, hs2⟩)
  · cases hz

theorem zx_irem {x y : Int} {r : List zV} (hx : p.tables.exec = Jvm.exec) (hb : c.code = cc) (hd : decode cc pc = .ok (.irem, 1)) (hl : zlr E nL ls lc) (hs : zsr E (.inl y :: .inl x :: r) sc) (hz : (if y ≠ 0 then zgo (pc + 1) ls (.inl (zrem x y) :: r) L m else none) = some (.inl (pc', ls', st', L', m')))
    (k : ∀ (lc' : Array Slot) (sc' : List Value), L' = L → m' = m → zlr E nL ls' lc' → zsr E st' sc' → W p l e R s mt args below meth c H locs cells slots Q (F0 mt pc' lc' sc')) : W p l e R s mt args below meth c H locs cells slots Q (F0 mt pc lc sc) := by
  split at hz
  · rename_i hne
    simp only [zgo, Option.some.injEq, Sum.inl.injEq, Prod.mk.injEq] at hz
    obtain ⟨rfl, rfl, rfl, rfl, rfl⟩ := hz
    obtain ⟨w, sc1, rfl, ⟨i, rfl, rfl⟩, hs1⟩ := zsr_cons hs
    obtain ⟨w, sc1, rfl, ⟨j, rfl, rfl⟩, hs2⟩ := zsr_cons hs1
    exact lv_irem hx hb hd (fun q => hne (by rw [q]; rfl)) (k _ _ rfl rfl hl ⟨⟨_, rfl, by rw [zrem, z_ofInt32, z_ofInt32]⟩, hs2⟩)
  · cases hz

theorem zx_ladd {x y : Int} {r : List zV} (hx : p.tables.exec = Jvm.exec) (hb : c.code = cc) (hd : decode cc pc = .ok (.ladd, 1)) (hl : zlr E nL ls lc) (hs : zsr E (.inr (.inl y) :: .inr (.inl x) :: r) sc) (hz : zgo (pc + 1) ls (.inr (.inl (zwl (x + y))) :: r) L m = some (.inl (pc', ls', st', L', m')))
    (k : ∀ (lc' : Array Slot) (sc' : List Value), L' = L → m' = m → zlr E nL ls' lc' → zsr E st' sc' → W p l e R s mt args below meth c H locs cells slots Q (F0 mt pc' lc' sc')) : W p l e R s mt args below meth c H locs cells slots Q (F0 mt pc lc sc) := by
  simp only [zgo, Option.some.injEq, Sum.inl.injEq, Prod.mk.injEq] at hz
  obtain ⟨rfl, rfl, rfl, rfl, rfl⟩ := hz
  obtain ⟨w, sc1, rfl, ⟨i, rfl, rfl⟩, hs1⟩ := zsr_cons hs
  obtain ⟨w, sc1, rfl, ⟨j, rfl, rfl⟩, hs2⟩ := zsr_cons hs1
  exact lv_ladd hx hb hd (k _ _ rfl rfl hl ⟨⟨_, rfl, zwl_add _ _⟩, hs2⟩)

theorem zx_lcmp {x y : Int} {r : List zV} (hx : p.tables.exec = Jvm.exec) (hb : c.code = cc) (hd : decode cc pc = .ok (.lcmp, 1)) (hl : zlr E nL ls lc) (hs : zsr E (.inr (.inl y) :: .inr (.inl x) :: r) sc) (hz : zgo (pc + 1) ls (.inl (if y < x then 1 else if x = y then 0 else -1) :: r) L m = some (.inl (pc', ls', st', L', m')))
    (k : ∀ (lc' : Array Slot) (sc' : List Value), L' = L → m' = m → zlr E nL ls' lc' → zsr E st' sc' → W p l e R s mt args below meth c H locs cells slots Q (F0 mt pc' lc' sc')) : W p l e R s mt args below meth c H locs cells slots Q (F0 mt pc lc sc) := by
  simp only [zgo, Option.some.injEq, Sum.inl.injEq, Prod.mk.injEq] at hz
  obtain ⟨rfl, rfl, rfl, rfl, rfl⟩ := hz
  obtain ⟨w, sc1, rfl, ⟨i, rfl, rfl⟩, hs1⟩ := zsr_cons hs
  obtain ⟨w, sc1, rfl, ⟨j, rfl, rfl⟩, hs2⟩ := zsr_cons hs1
  refine W.lcmp hx hb hd (k _ _ rfl rfl hl ⟨⟨_, rfl, ?_⟩, hs2⟩)
  unfold lg_cmp
  by_cases h1 : i < j
  · rw [if_pos (show j > i from h1), if_pos (Int64.lt_iff_toInt_lt.mp h1)]; rfl
  · rw [if_neg (show ¬ j > i from h1), if_neg (fun q => h1 (Int64.lt_iff_toInt_lt.mpr q))]
    by_cases h2 : j = i
    · rw [if_pos h2, if_pos (by rw [h2])]; rfl
    · rw [if_neg h2, if_neg (fun q => h2 (Int64.toInt_inj.mp q))]; rfl

theorem zx_i2l {x : Int} {r : List zV} (hx : p.tables.exec = Jvm.exec) (hb : c.code = cc) (hd : decode cc pc = .ok (.i2l, 1)) (hl : zlr E nL ls lc) (hs : zsr E (.inl x :: r) sc) (hz : zgo (pc + 1) ls (.inr (.inl x) :: r) L m = some (.inl (pc', ls', st', L', m')))
    (k : ∀ (lc' : Array Slot) (sc' : List Value), L' = L → m' = m → zlr E nL ls' lc' → zsr E st' sc' → W p l e R s mt args below meth c H locs cells slots Q (F0 mt pc' lc' sc')) : W p l e R s mt args below meth c H locs cells slots Q (F0 mt pc lc sc) := by
  simp only [zgo, Option.some.injEq, Sum.inl.injEq, Prod.mk.injEq] at hz
  obtain ⟨rfl, rfl, rfl, rfl, rfl⟩ := hz
  obtain ⟨w, sc1, rfl, ⟨i, rfl, rfl⟩, hs1⟩ := zsr_cons hs
  exact lv_i2l hx hb hd rfl (k _ _ rfl rfl hl ⟨⟨_, rfl, Int32.toInt_toInt64 i⟩, hs1⟩)

theorem zx_i2c {x : Int} {r : List zV} (hx : p.tables.exec = Jvm.exec) (hb : c.code = cc) (hd : decode cc pc = .ok (.i2c, 1)) (hl : zlr E nL ls lc) (hs : zsr E (.inl x :: r) sc) (hz : (if 0 ≤ x ∧ x < 65536 then zgo (pc + 1) ls (.inl x :: r) L m else none) = some (.inl (pc', ls', st', L', m')))
    (k : ∀ (lc' : Array Slot) (sc' : List Value), L' = L → m' = m → zlr E nL ls' lc' → zsr E st' sc' → W p l e R s mt args below meth c H locs cells slots Q (F0 mt pc' lc' sc')) : W p l e R s mt args below meth c H locs cells slots Q (F0 mt pc lc sc) := by
  split at hz
  · rename_i hr
    simp only [zgo, Option.some.injEq, Sum.inl.injEq, Prod.mk.injEq] at hz
    obtain ⟨rfl, rfl, rfl, rfl, rfl⟩ := hz
    obtain ⟨w, sc1, rfl, ⟨i, rfl, rfl⟩, hs1⟩ := zsr_cons hs
    exact lv_i2c hx hb hd (z_i2c hr) (k _ _ rfl rfl hl ⟨⟨_, rfl, rfl⟩, hs1⟩)
  · cases hz

theorem zx_dup {v : zV} {r : List zV} (hx : p.tables.exec = Jvm.exec) (hb : c.code = cc) (hd : decode cc pc = .ok (.dup, 1)) (hl : zlr E nL ls lc) (hs : zsr E (v :: r) sc) (hz : (if zcat v = 1 then zgo (pc + 1) ls (v :: v :: r) L m else none) = some (.inl (pc', ls', st', L', m')))
    (k : ∀ (lc' : Array Slot) (sc' : List Value), L' = L → m' = m → zlr E nL ls' lc' → zsr E st' sc' → W p l e R s mt args below meth c H locs cells slots Q (F0 mt pc' lc' sc')) : W p l e R s mt args below meth c H locs cells slots Q (F0 mt pc lc sc) := by
  split at hz
  · rename_i hr
    simp only [zgo, Option.some.injEq, Sum.inl.injEq, Prod.mk.injEq] at hz
    obtain ⟨rfl, rfl, rfl, rfl, rfl⟩ := hz
    obtain ⟨w, sc1, rfl, h1, hs1⟩ := zsr_cons hs
    exact lv_dup hx hb hd (by rw [zvr_cat h1]; exact hr) (k _ _ rfl rfl hl ⟨h1, h1, hs1⟩)
  · cases hz

theorem zx_dup2 {v u : zV} {r : List zV} (hx : p.tables.exec = Jvm.exec) (hb : c.code = cc) (hd : decode cc pc = .ok (.dup2, 1)) (hl : zlr E nL ls lc) (hs : zsr E (v :: u :: r) sc) (hz : (if zcat v = 1 ∧ zcat u = 1 then zgo (pc + 1) ls (v :: u :: v :: u :: r) L m else none) = some (.inl (pc', ls', st', L', m')))
    (k : ∀ (lc' : Array Slot) (sc' : List Value), L' = L → m' = m → zlr E nL ls' lc' → zsr E st' sc' → W p l e R s mt args below meth c H locs cells slots Q (F0 mt pc' lc' sc')) : W p l e R s mt args below meth c H locs cells slots Q (F0 mt pc lc sc) := by
  split at hz
  · rename_i hr
    simp only [zgo, Option.some.injEq, Sum.inl.injEq, Prod.mk.injEq] at hz
    obtain ⟨rfl, rfl, rfl, rfl, rfl⟩ := hz
    obtain ⟨w, sc1, rfl, h1, hs1⟩ := zsr_cons hs
    obtain ⟨w, sc1, rfl, h2, hs2⟩ := zsr_cons hs1
    exact lv_dup2_11 hx hb hd (by rw [zvr_cat h1]; exact hr.1) (by rw [zvr_cat h2]; exact hr.2) (k _ _ rfl rfl hl ⟨h1, h2, h1, h2, hs2⟩)
  · cases hz

theorem zx_pop {v : zV} {r : List zV} (hx : p.tables.exec = Jvm.exec) (hb : c.code = cc) (hd : decode cc pc = .ok (.pop, 1)) (hl : zlr E nL ls lc) (hs : zsr E (v :: r) sc) (hz : (if zcat v = 1 then zgo (pc + 1) ls r L m else none) = some (.inl (pc', ls', st', L', m')))
    (k : ∀ (lc' : Array Slot) (sc' : List Value), L' = L → m' = m → zlr E nL ls' lc' → zsr E st' sc' → W p l e R s mt args below meth c H locs cells slots Q (F0 mt pc' lc' sc')) : W p l e R s mt args below meth c H locs cells slots Q (F0 mt pc lc sc) := by
  split at hz
  · rename_i hr
    simp only [zgo, Option.some.injEq, Sum.inl.injEq, Prod.mk.injEq] at hz
    obtain ⟨rfl, rfl, rfl, rfl, rfl⟩ := hz
    obtain ⟨w, sc1, rfl, h1, hs1⟩ := zsr_cons hs
    exact lv_pop hx hb hd (by rw [zvr_cat h1]; exact hr) (k _ _ rfl rfl hl hs1)
  · cases hz

theorem zjmp_inv {off : Int} (hz : zjmp pc off ls st L m = some (.inl (pc', ls', st', L', m'))) : (pc : Int) + off = (pc' : Int) ∧ ls' = ls ∧ st' = st ∧ L' = L ∧ m' = m := by
  unfold zjmp at hz
  split at hz
  · rename_i h
    simp only [zgo, Option.some.injEq, Sum.inl.injEq, Prod.mk.injEq] at hz
    obtain ⟨h1, h2, h3, h4, h5⟩ := hz
    exact ⟨by omega, h2.symm, h3.symm, h4.symm, h5.symm⟩
  · cases hz

theorem zx_goto {off : Int} (hx : p.tables.exec = Jvm.exec) (hb : c.code = cc) (hd : decode cc pc = .ok (.goto off, 3)) (hl : zlr E nL ls lc) (hs : zsr E st sc) (hz : zjmp pc off ls st L m = some (.inl (pc', ls', st', L', m')))
    (k : ∀ (lc' : Array Slot) (sc' : List Value), L' = L → m' = m → zlr E nL ls' lc' → zsr E st' sc' → W p l e R s mt args below meth c H locs cells slots Q (F0 mt pc' lc' sc')) : W p l e R s mt args below meth c H locs cells slots Q (F0 mt pc lc sc) := by
  obtain ⟨h1, rfl, rfl, h4, h5⟩ := zjmp_inv hz
  exact lv_goto hx hb hd h1 (k _ _ h4 h5 hl hs)

theorem zz_icmp_eq {i j : Int32} {off : Int} {rest : List Value} (hx : p.tables.exec = Jvm.exec) (hb : c.code = cc) (hd : decode cc pc = .ok (.if_icmp .eq off, 3)) (hc : ¬ (i = j)) (k : W p l e R s mt args below meth c H locs cells slots Q (F0 mt (pc + 3) lc rest)) : W p l e R s mt args below meth c H locs cells slots Q (F0 mt pc lc (.int j :: .int i :: rest)) := by
  intro T hT X
  obtain ⟨t, a, b⟩ := k T hT X
  refine ⟨t, ?_, b⟩
  jvm_step X.here [X.here.top, hx, hb, hd, Op.if_icmp.holds, hc]
  exact a

theorem zz_if_eq {i : Int32} {off : Int} {rest : List Value} (hx : p.tables.exec = Jvm.exec) (hb : c.code = cc) (hd : decode cc pc = .ok (.ifCond .eq off, 3)) (hc : ¬ (i = 0)) (k : W p l e R s mt args below meth c H locs cells slots Q (F0 mt (pc + 3) lc rest)) : W p l e R s mt args below meth c H locs cells slots Q (F0 mt pc lc (.int i :: rest)) := by
  intro T hT X
  obtain ⟨t, a, b⟩ := k T hT X
  refine ⟨t, ?_, b⟩
  jvm_step X.here [X.here.top, hx, hb, hd, Op.ifCond.holds, hc]
  exact a

theorem zz_icmp_ne {i j : Int32} {off : Int} {rest : List Value} (hx : p.tables.exec = Jvm.exec) (hb : c.code = cc) (hd : decode cc pc = .ok (.if_icmp .ne off, 3)) (hc : ¬ (i ≠ j)) (k : W p l e R s mt args below meth c H locs cells slots Q (F0 mt (pc + 3) lc rest)) : W p l e R s mt args below meth c H locs cells slots Q (F0 mt pc lc (.int j :: .int i :: rest)) := by
  intro T hT X
  obtain ⟨t, a, b⟩ := k T hT X
  refine ⟨t, ?_, b⟩
  have hc := Decidable.not_not.mp hc
  jvm_step X.here [X.here.top, hx, hb, hd, Op.if_icmp.holds, hc]
  exact a

theorem zz_if_ne {i : Int32} {off : Int} {rest : List Value} (hx : p.tables.exec = Jvm.exec) (hb : c.code = cc) (hd : decode cc pc = .ok (.ifCond .ne off, 3)) (hc : ¬ (i ≠ 0)) (k : W p l e R s mt args below meth c H locs cells slots Q (F0 mt (pc + 3) lc rest)) : W p l e R s mt args below meth c H locs cells slots Q (F0 mt pc lc (.int i :: rest)) := by
  intro T hT X
  obtain ⟨t, a, b⟩ := k T hT X
  refine ⟨t, ?_, b⟩
  have hc := Decidable.not_not.mp hc
  jvm_step X.here [X.here.top, hx, hb, hd, Op.ifCond.holds, hc]
  exact a

theorem zz_icmp_lt {i j : Int32} {off : Int} {rest : List Value} (hx : p.tables.exec = Jvm.exec) (hb : c.code = cc) (hd : decode cc pc = .ok (.if_icmp .lt off, 3)) (hc : ¬ (i < j)) (k : W p l e R s mt args below meth c H locs cells slots Q (F0 mt (pc + 3) lc rest)) : W p l e R s mt args below meth c H locs cells slots Q (F0 mt pc lc (.int j :: .int i :: rest)) := by
  intro T hT X
  obtain ⟨t, a, b⟩ := k T hT X
  refine ⟨t, ?_, b⟩
  jvm_step X.here [X.here.top, hx, hb, hd, Op.if_icmp.holds, hc]
  exact a

theorem zz_if_lt {i : Int32} {off : Int} {rest : List Value} (hx : p.tables.exec = Jvm.exec) (hb : c.code = cc) (hd : decode cc pc = .ok (.ifCond .lt off, 3)) (hc : ¬ (i < 0)) (k : W p l e R s mt args below meth c H locs cells slots Q (F0 mt (pc + 3) lc rest)) : W p l e R s mt args below meth c H locs cells slots Q (F0 mt pc lc (.int i :: rest)) := by
  intro T hT X
  obtain ⟨t, a, b⟩ := k T hT X
  refine ⟨t, ?_, b⟩
  jvm_step X.here [X.here.top, hx, hb, hd, Op.ifCond.holds, hc]
  exact a

theorem zz_icmp_ge {i j : Int32} {off : Int} {rest : List Value} (hx : p.tables.exec = Jvm.exec) (hb : c.code = cc) (hd : decode cc pc = .ok (.if_icmp .ge off, 3)) (hc : ¬ (j ≤ i)) (k : W p l e R s mt args below meth c H locs cells slots Q (F0 mt (pc + 3) lc rest)) : W p l e R s mt args below meth c H locs cells slots Q (F0 mt pc lc (.int j :: .int i :: rest)) := by
  intro T hT X
  obtain ⟨t, a, b⟩ := k T hT X
  refine ⟨t, ?_, b⟩
  jvm_step X.here [X.here.top, hx, hb, hd, Op.if_icmp.holds, hc]
  exact a

theorem zz_if_ge {i : Int32} {off : Int} {rest : List Value} (hx : p.tables.exec = Jvm.exec) (hb : c.code = cc) (hd : decode cc pc = .ok (.ifCond .ge off, 3)) (hc : ¬ (0 ≤ i)) (k : W p l e R s mt args below meth c H locs cells slots Q (F0 mt (pc + 3) lc rest)) : W p l e R s mt args below meth c H locs cells slots Q (F0 mt pc lc (.int i :: rest)) := by
  intro T hT X
  obtain ⟨t, a, b⟩ := k T hT X
  refine ⟨t, ?_, b⟩
  jvm_step X.here [X.here.top, hx, hb, hd, Op.ifCond.holds, hc]
  exact a

theorem zz_icmp_gt {i j : Int32} {off : Int} {rest : List Value} (hx : p.tables.exec = Jvm.exec) (hb : c.code = cc) (hd : decode cc pc = .ok (.if_icmp .gt off, 3)) (hc : ¬ (j < i)) (k : W p l e R s mt args below meth c H locs cells slots Q (F0 mt (pc + 3) lc rest)) : W p l e R s mt args below meth c H locs cells slots Q (F0 mt pc lc (.int j :: .int i :: rest)) := by
  intro T hT X
  obtain ⟨t, a, b⟩ := k T hT X
  refine ⟨t, ?_, b⟩
  jvm_step X.here [X.here.top, hx, hb, hd, Op.if_icmp.holds, hc]
  exact a

theorem zz_if_gt {i : Int32} {off : Int} {rest : List Value} (hx : p.tables.exec = Jvm.exec) (hb : c.code = cc) (hd : decode cc pc = .ok (.ifCond .gt off, 3)) (hc : ¬ (0 < i)) (k : W p l e R s mt args below meth c H locs cells slots Q (F0 mt (pc + 3) lc rest)) : W p l e R s mt args below meth c H locs cells slots Q (F0 mt pc lc (.int i :: rest)) := by
  intro T hT X
  obtain ⟨t, a, b⟩ := k T hT X
  refine ⟨t, ?_, b⟩
  jvm_step X.here [X.here.top, hx, hb, hd, Op.ifCond.holds, hc]
  exact a

theorem zz_icmp_le {i j : Int32} {off : Int} {rest : List Value} (hx : p.tables.exec = Jvm.exec) (hb : c.code = cc) (hd : decode cc pc = .ok (.if_icmp .le off, 3)) (hc : ¬ (i ≤ j)) (k : W p l e R s mt args below meth c H locs cells slots Q (F0 mt (pc + 3) lc rest)) : W p l e R s mt args below meth c H locs cells slots Q (F0 mt pc lc (.int j :: .int i :: rest)) := by
  intro T hT X
  obtain ⟨t, a, b⟩ := k T hT X
  refine ⟨t, ?_, b⟩
  jvm_step X.here [X.here.top, hx, hb, hd, Op.if_icmp.holds, hc]
  exact a

theorem zz_if_le {i : Int32} {off : Int} {rest : List Value} (hx : p.tables.exec = Jvm.exec) (hb : c.code = cc) (hd : decode cc pc = .ok (.ifCond .le off, 3)) (hc : ¬ (i ≤ 0)) (k : W p l e R s mt args below meth c H locs cells slots Q (F0 mt (pc + 3) lc rest)) : W p l e R s mt args below meth c H locs cells slots Q (F0 mt pc lc (.int i :: rest)) := by
  intro T hT X
  obtain ⟨t, a, b⟩ := k T hT X
  refine ⟨t, ?_, b⟩
  jvm_step X.here [X.here.top, hx, hb, hd, Op.ifCond.holds, hc]
  exact a

theorem zx_if_icmp {cd : Jvm.ClassFile.Cond} {off : Int} {x y : Int} {r : List zV} (hx : p.tables.exec = Jvm.exec) (hb : c.code = cc) (hd : decode cc pc = .ok (.if_icmp cd off, 3)) (hl : zlr E nL ls lc) (hs : zsr E (.inl y :: .inl x :: r) sc) (hz : (bif zcd cd x y then zjmp pc off ls r L m else zgo (pc + 3) ls r L m) = some (.inl (pc', ls', st', L', m')))
    (k : ∀ (lc' : Array Slot) (sc' : List Value), L' = L → m' = m → zlr E nL ls' lc' → zsr E st' sc' → W p l e R s mt args below meth c H locs cells slots Q (F0 mt pc' lc' sc')) : W p l e R s mt args below meth c H locs cells slots Q (F0 mt pc lc sc) := by
  obtain ⟨w, sc1, rfl, ⟨j, rfl, rfl⟩, hs1⟩ := zsr_cons hs
  obtain ⟨w, sc1, rfl, ⟨i, rfl, rfl⟩, hs2⟩ := zsr_cons hs1
  have kt : zcd cd i.toInt j.toInt = true → (pc : Int) + off = (pc' : Int) ∧ W p l e R s mt args below meth c H locs cells slots Q (F0 mt pc' lc sc1) := fun h => by
    rw [h] at hz
    obtain ⟨h1, rfl, rfl, h4, h5⟩ := zjmp_inv hz
    exact ⟨h1, k _ _ h4 h5 hl hs2⟩
  have kf : zcd cd i.toInt j.toInt = false → W p l e R s mt args below meth c H locs cells slots Q (F0 mt (pc + 3) lc sc1) := fun h => by
    rw [h] at hz
    simp only [cond_false, zgo, Option.some.injEq, Sum.inl.injEq, Prod.mk.injEq] at hz
    obtain ⟨rfl, rfl, rfl, rfl, rfl⟩ := hz
    exact k _ _ rfl rfl hl hs2
  clear k hz
  cases hc : zcd cd i.toInt j.toInt with
  | true =>
    obtain ⟨h1, k1⟩ := kt hc
    cases cd <;> simp only [zcd, decide_eq_true_eq, ne_eq, z_eq, z_lt, z_le] at hc
    · exact lv_icmp_eq hx hb hd h1 (fun _ => k1) (fun h => absurd hc h)
    · exact lv_icmp_ne hx hb hd h1 (fun _ => k1) (fun h => absurd h hc)
    · exact lv_icmp_lt hx hb hd h1 (fun _ => k1) (fun h => absurd hc h)
    · exact lv_icmp_ge hx hb hd h1 (fun _ => k1) (fun h => absurd hc h)
    · exact lv_icmp_gt hx hb hd h1 (fun _ => k1) (fun h => absurd hc h)
    · exact lv_icmp_le hx hb hd h1 (fun _ => k1) (fun h => absurd hc h)
  | false =>
    have k1 := kf hc
    cases cd <;> simp only [zcd, decide_eq_false_iff_not, ne_eq, z_eq, z_lt, z_le] at hc
    · exact zz_icmp_eq hx hb hd hc k1
    · exact zz_icmp_ne hx hb hd hc k1
    · exact zz_icmp_lt hx hb hd hc k1
    · exact zz_icmp_ge hx hb hd hc k1
    · exact zz_icmp_gt hx hb hd hc k1
    · exact zz_icmp_le hx hb hd hc k1

theorem zx_if {cd : Jvm.ClassFile.Cond} {off : Int} {x : Int} {r : List zV} (hx : p.tables.exec = Jvm.exec) (hb : c.code = cc) (hd : decode cc pc = .ok (.ifCond cd off, 3)) (hl : zlr E nL ls lc) (hs : zsr E (.inl x :: r) sc) (hz : (bif zcd cd x 0 then zjmp pc off ls r L m else zgo (pc + 3) ls r L m) = some (.inl (pc', ls', st', L', m')))
    (k : ∀ (lc' : Array Slot) (sc' : List Value), L' = L → m' = m → zlr E nL ls' lc' → zsr E st' sc' → W p l e R s mt args below meth c H locs cells slots Q (F0 mt pc' lc' sc')) : W p l e R s mt args below meth c H locs cells slots Q (F0 mt pc lc sc) := by
  obtain ⟨w, sc1, rfl, ⟨i, rfl, rfl⟩, hs1⟩ := zsr_cons hs
  have kt : zcd cd i.toInt 0 = true → (pc : Int) + off = (pc' : Int) ∧ W p l e R s mt args below meth c H locs cells slots Q (F0 mt pc' lc sc1) := fun h => by
    rw [h] at hz
    obtain ⟨h1, rfl, rfl, h4, h5⟩ := zjmp_inv hz
    exact ⟨h1, k _ _ h4 h5 hl hs1⟩
  have kf : zcd cd i.toInt 0 = false → W p l e R s mt args below meth c H locs cells slots Q (F0 mt (pc + 3) lc sc1) := fun h => by
    rw [h] at hz
    simp only [cond_false, zgo, Option.some.injEq, Sum.inl.injEq, Prod.mk.injEq] at hz
    obtain ⟨rfl, rfl, rfl, rfl, rfl⟩ := hz
    exact k _ _ rfl rfl hl hs1
  clear k hz
  have e0 : (0 : Int) = (0 : Int32).toInt := rfl
  rw [e0] at kt kf
  cases hc : zcd cd i.toInt (0 : Int32).toInt with
  | true =>
    obtain ⟨h1, k1⟩ := kt hc
    cases cd <;> simp only [zcd, decide_eq_true_eq, ne_eq, z_eq, z_lt, z_le] at hc
    · exact lv_if_eq hx hb hd h1 (fun _ => k1) (fun h => absurd hc h)
    · exact lv_if_ne hx hb hd h1 (fun _ => k1) (fun h => absurd h hc)
    · exact lv_if_lt hx hb hd h1 (fun _ => k1) (fun h => absurd hc h)
    · exact lv_if_ge hx hb hd h1 (fun _ => k1) (fun h => absurd hc h)
    · exact lv_if_gt hx hb hd h1 (fun _ => k1) (fun h => absurd hc h)
    · exact lv_if_le hx hb hd h1 (fun _ => k1) (fun h => absurd hc h)
  | false =>
    have k1 := kf hc
    cases cd <;> simp only [zcd, decide_eq_false_iff_not, ne_eq, z_eq, z_lt, z_le] at hc
    · exact zz_if_eq hx hb hd hc k1
    · exact zz_if_ne hx hb hd hc k1
    · exact zz_if_lt hx hb hd hc k1
    · exact zz_if_ge hx hb hd hc k1
    · exact zz_if_gt hx hb hd hc k1
    · exact zz_if_le hx hb hd hc k1

theorem zx_ifnull {off : Int} {a : Nat} {r : List zV} (hx : p.tables.exec = Jvm.exec) (hb : c.code = cc) (hd : decode cc pc = .ok (.ifnull off, 3)) (hl : zlr E nL ls lc) (hs : zsr E (.inr (.inr (.inl a)) :: r) sc) (hz : (if a = 0 then zjmp pc off ls r L m else zgo (pc + 3) ls r L m) = some (.inl (pc', ls', st', L', m')))
    (k : ∀ (lc' : Array Slot) (sc' : List Value), L' = L → m' = m → zlr E nL ls' lc' → zsr E st' sc' → W p l e R s mt args below meth c H locs cells slots Q (F0 mt pc' lc' sc')) : W p l e R s mt args below meth c H locs cells slots Q (F0 mt pc lc sc) := by
  obtain ⟨w, sc1, rfl, h1, hs1⟩ := zsr_cons hs
  have h1 : w = zad E a := h1
  split at hz
  · rename_i h0
    subst h0
    obtain ⟨h2, rfl, rfl, h4, h5⟩ := zjmp_inv hz
    have h1 : w = .null := h1
    subst h1
    exact lv_ifnullN hx hb hd h2 (k _ _ h4 h5 hl hs1)
  · rename_i h0
    simp only [zgo, Option.some.injEq, Sum.inl.injEq, Prod.mk.injEq] at hz
    obtain ⟨rfl, rfl, rfl, rfl, rfl⟩ := hz
    have h2 : ∃ q, w = .ref q := by
      rw [h1]; unfold zad; rw [if_neg h0]; split <;> exact ⟨_, rfl⟩
    obtain ⟨q, rfl⟩ := h2
    exact lv_ifnull hx hb hd (k _ _ rfl rfl hl hs1)

theorem zx_table {d lo hi : Int} {offs : Array Int} {n : Nat} {x : Int} {r : List zV} (hx : p.tables.exec = Jvm.exec) (hb : c.code = cc) (hd : decode cc pc = .ok (.tableswitch d lo hi offs, n)) (hl : zlr E nL ls lc) (hs : zsr E (.inl x :: r) sc) (hz : (if x < lo ∨ hi < x then zjmp pc d ls r L m else (match offs[(x - lo).toNat]? with | some off => zjmp pc off ls r L m | none => none)) = some (.inl (pc', ls', st', L', m')))
    (k : ∀ (lc' : Array Slot) (sc' : List Value), L' = L → m' = m → zlr E nL ls' lc' → zsr E st' sc' → W p l e R s mt args below meth c H locs cells slots Q (F0 mt pc' lc' sc')) : W p l e R s mt args below meth c H locs cells slots Q (F0 mt pc lc sc) := by
  obtain ⟨w, sc1, rfl, ⟨i, rfl, rfl⟩, hs1⟩ := zsr_cons hs
  split at hz
  · rename_i h0
    obtain ⟨h2, rfl, rfl, h4, h5⟩ := zjmp_inv hz
    exact lv_tableOut hx hb hd h0 h2 (k _ _ h4 h5 hl hs1)
  · rename_i h0
    split at hz
    · rename_i off ho
      obtain ⟨h2, rfl, rfl, h4, h5⟩ := zjmp_inv hz
      exact lv_tableIn hx hb hd (fun q => h0 (Or.inl q)) (fun q => h0 (Or.inr q)) ho h2 (k _ _ h4 h5 hl hs1)
    · cases hz

theorem zx_lookup {d : Int} {ps : Array (Int × Int)} {n : Nat} {x : Int} {r : List zV} (hx : p.tables.exec = Jvm.exec) (hb : c.code = cc) (hd : decode cc pc = .ok (.lookupswitch d ps, n)) (hl : zlr E nL ls lc) (hs : zsr E (.inl x :: r) sc) (hz : (if (ps.toList.zip (ps.toList.drop 1)).all (fun (a, next) => a.1 < next.1) = true then zjmp pc (Op.lookupswitch.offset ps.toList d x) ls r L m else none) = some (.inl (pc', ls', st', L', m')))
    (k : ∀ (lc' : Array Slot) (sc' : List Value), L' = L → m' = m → zlr E nL ls' lc' → zsr E st' sc' → W p l e R s mt args below meth c H locs cells slots Q (F0 mt pc' lc' sc')) : W p l e R s mt args below meth c H locs cells slots Q (F0 mt pc lc sc) := by
  obtain ⟨w, sc1, rfl, ⟨i, rfl, rfl⟩, hs1⟩ := zsr_cons hs
  split at hz
  · rename_i h0
    obtain ⟨h2, rfl, rfl, h4, h5⟩ := zjmp_inv hz
    exact lv_lookup hx hb hd h0 rfl h2 (k _ _ h4 h5 hl hs1)
  · cases hz

end ZB
