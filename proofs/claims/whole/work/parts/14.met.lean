section ZJ
/-- what an answer is, on both sides -/
def zrv (E : zE) (r : Option zV) (v : Option Value) : Prop := match r, v with
  | none, none => True
  | some a, some b => zvr E a b
  | _, _ => False
/-- the end of a method: which instruction, the stack that it finds -/
def zend (E : zE) (rk : Nat) (r : Option zV) (i : Instr) (sc : List Value) : Prop :=
  (i = .ireturn ∧ ∃ (x : Int) (v : Int32), r = some (.inl x) ∧ sc = [.int v] ∧ v.toInt = x ∧ (rk = 0 ∨ (rk = 1 ∧ (x = 0 ∨ x = 1)) ∨ (rk = 2 ∧ 0 ≤ x ∧ x < 65536) ∨ (rk = 3 ∧ -128 ≤ x ∧ x < 128))) ∨
  (i = .lreturn ∧ rk = 4 ∧ ∃ (x : Int) (v : Int64), r = some (.inr (.inl x)) ∧ sc = [.long v] ∧ v.toInt = x) ∨
  (i = .areturn ∧ rk = 5 ∧ ∃ a : Nat, r = some (.inr (.inr (.inl a))) ∧ sc = [zad E a]) ∨
  (i = .return_ ∧ rk = 6 ∧ r = none ∧ sc = [])
def zwsm (k : Nat) : List Cond := [.code (zmd k).1 (zmd k).2.1 (zmx k) (zmd k).2.2]
def zPc (E : zE) (D : va_G) (cA : Nat → ClassId) (H0 : Heap) (scr : Cell) (L : zY) (m : zM) (as : List Value) : Array Value → State → Prop := fun v U => v = as.toArray ∧ zhr E D cA H0 scr L m U.heap ∧ zK E D cA H0 scr U
def zQc (E : zE) (D : va_G) (cA : Nat → ClassId) (H0 : Heap) (scr : Cell) (L : zY) (m : zM) (r : Option zV) : Array Value → State → Outcome → State → Prop := fun _ _ o t => ∃ v, o = .returned v ∧ zrv E r v ∧ zhr E D cA H0 scr L m t.heap
theorem zPc_blind {E : zE} {D : va_G} {cA : Nat → ClassId} {H0 : Heap} {scr : Cell} {L : zY} {m : zM} {as : List Value} : FrameBlind (zPc E D cA H0 scr L m as) := fun _ U _ _ h => ⟨h.1, h.2.1, zK.same (s := U) rfl h.2.2⟩
theorem zcl_law : ∀ k, k < 268 → k ≠ 258 → zcl k ≠ 11 := by decide +kernel
theorem zcal_told : ∀ q ∈ zcal, q.2.2.2 = 5 → q.1 / 10000 = 11 := by decide +kernel
theorem zTold_vac {p : Program} {l : Launch} {e : Env} {R : Room} {s : State} {mt : MethodId} {args : Array Value} {below : List Frame} {meth : Method} {c : Code} {Q : State → Prop} {E : zE} {D : va_G} {cA : Nat → ClassId} {H0 : Heap} {scr : Cell} {cc : ByteArray} {ci c0 s0 : Nat} (h : ci ≠ 11) : zTold p l e R s mt args below meth c Q E D cA H0 scr cc ci c0 s0 := by
  intro k q a pc st st' L L' m m' H locs lc sc h1 h2
  have h3 := zcal_told _ (zlk_mem h1) rfl
  exact absurd (by have : zkey ci k / 10000 = ci := (by unfold zkey; omega); rw [← this]; exact h3) h
/-- the locals at a method's entry -/
theorem zent_at {E : zE} : ∀ (as : List zV) (ac : List Value) (n : Nat), zsr E as ac → ∀ (i : Nat) (v : zV), ((as.flatMap fun v => if zlong v then [v, zU] else [v]))[i]? = some v → v = zU ∨ ∃ w, (n + i, w) ∈ lv_args n ac ∧ zvr E v w := by
  intro as
  induction as with
  | nil => intro ac n h i v hi; simp at hi
  | cons a as ih =>
    intro ac n h i v hi
    obtain ⟨w, b, rfl, h1, h2⟩ := zsr_cons h
    rw [List.flatMap_cons] at hi
    have hc := zvr_cat h1
    by_cases hl : zlong a = true
    · rw [if_pos hl] at hi
      have hc2 : w.category = 2 := by rw [hc]; exact zlong_cat.mp hl
      match i, hi with
      | 0, hi => cases hi; exact Or.inr ⟨w, by rw [lv_args]; exact List.mem_cons_self, h1⟩
      | 1, hi => cases hi; exact Or.inl rfl
      | i + 2, hi =>
        rcases ih b (n + 2) h2 i v hi with q | ⟨w2, q1, q2⟩
        · exact Or.inl q
        · refine Or.inr ⟨w2, ?_, q2⟩
          rw [lv_args, if_pos hc2, show n + (i + 2) = n + 2 + i by omega]
          exact List.mem_cons_of_mem _ q1
    · rw [if_neg hl] at hi
      have hc2 : ¬ w.category = 2 := by rw [hc]; exact fun q => hl (zlong_cat.mpr q)
      match i, hi with
      | 0, hi => cases hi; exact Or.inr ⟨w, by rw [lv_args]; exact List.mem_cons_self, h1⟩
      | i + 1, hi =>
        rcases ih b (n + 1) h2 i v hi with q | ⟨w2, q1, q2⟩
        · exact Or.inl q
        · refine Or.inr ⟨w2, ?_, q2⟩
          rw [lv_args, if_neg hc2, show n + (i + 1) = n + 1 + i by omega]
          exact List.mem_cons_of_mem _ q1
theorem zent_len : ∀ (as : List zV), (as.flatMap fun v => if zlong v then [v, zU] else [v]).length = (as.map zcat).sum := by
  intro as
  induction as with
  | nil => rfl
  | cons a as ih =>
    rw [List.flatMap_cons, List.length_append, ih, List.map_cons, List.sum_cons]
    by_cases hl : zlong a = true
    · rw [if_pos hl, zlong_cat.mp hl]; rfl
    · rw [if_neg hl]
      have : zcat a = 1 := by
        rcases a with x | x | x | ⟨t, k⟩ <;> first | rfl | exact absurd rfl hl
      rw [this]; rfl
theorem lg_sl_len : ∀ (ac : List Value), (lg_sl ac).length = (ac.map fun v => v.category).sum ∨ True := fun _ => Or.inr trivial
theorem z_sllen {E : zE} : ∀ (as : List zV) (ac : List Value), zsr E as ac → (lg_sl ac).length = (as.map zcat).sum := by
  intro as
  induction as with
  | nil => intro ac h; rw [zsr_nil h]; rfl
  | cons a as ih =>
    intro ac h
    obtain ⟨w, b, rfl, h1, h2⟩ := zsr_cons h
    have hc := zvr_cat h1
    have ih2 := ih b h2
    unfold lg_sl at ih2 ⊢
    rw [List.flatMap_cons, List.length_append, ih2, List.map_cons, List.sum_cons]
    by_cases hl : w.category = 2
    · rw [if_pos hl, ← hc, hl]; rfl
    · rw [if_neg hl, ← hc]
      have : w.category = 1 := by
        rw [hc] at hl ⊢
        rcases a with x | x | x | ⟨t, k⟩ <;> first | rfl | exact absurd rfl hl
      rw [this]; rfl
theorem zent_lr {E : zE} {as : List zV} {ac : List Value} {n : Nat} (h : zsr E as ac) (hn : (as.map zcat).sum ≤ n) : zlr E n (zent n as) ((lg_sl ac ++ List.replicate (n - (lg_sl ac).length) Slot.unset).toArray) := by
  have hsl := z_sllen as ac h
  have hl := lv_entry ac (n := n) (by rw [hsl]; exact hn)
  refine ⟨hl.1, ?_, hl.2.1, fun i v hi => ?_⟩
  · unfold zent
    rw [List.length_append, zent_len, List.length_replicate]
    omega
  · unfold zent at hi
    by_cases hlt : i < (as.flatMap fun v => if zlong v then [v, zU] else [v]).length
    · rw [List.getElem?_append_left hlt] at hi
      rcases zent_at as ac 0 h i v hi with q | ⟨w, q1, q2⟩
      · exact Or.inl q
      · rw [Nat.zero_add] at q1
        exact Or.inr ⟨w, hl.2.2 _ q1, q2⟩
    · rw [List.getElem?_append_right (by omega), List.getElem?_replicate] at hi
      split at hi
      · cases hi; exact Or.inl rfl
      · cases hi
theorem z_nchar {v : Int32} (h : 0 ≤ v.toInt ∧ v.toInt < 65536) : narrow .char (.int v) = .int v := by
  show Value.int (v.toUInt32.toUInt16.toUInt32.toInt32) = Value.int v
  congr 1
  apply Int32.toInt_inj.mp
  have h1 : v.toUInt32.toNat = v.toInt.toNat := Int32.toInt_toNat_of_nonneg_z h.1
  have h2 : v.toUInt32.toUInt16.toUInt32 = v.toUInt32 := UInt32.toNat_inj.mp (by
    rw [UInt16.toNat_toUInt32, UInt32.toNat_toUInt16, h1]
    omega)
  rw [h2]
  simp
theorem z_nbyte {v : Int32} (h : -128 ≤ v.toInt ∧ v.toInt < 128) : narrow .byte (.int v) = .int v := by
  show Value.int (v.toInt8.toInt32) = Value.int v
  congr 1
  apply Int32.toInt_inj.mp
  rw [Int8.toInt_toInt32, Int32.toInt_toInt8]
  exact Int.bmod_eq_of_le (by omega) (by omega)
/-- what is to be shown of a run of n steps -/
def zSnd (l : Launch) (E : zE) (D : va_G) (cA : Nat → ClassId) (H0 : Heap) (scr : Cell) (n : Nat) : Prop :=
  ∀ (mi pc : Nat) (ls st : List zV) (L : zY) (m : zM) (r : Option zV) (L' : zY) (m' : zM), zev n mi pc ls st L m = some (r, L', m') → mi < 268 →
  ∀ (p : Program) (e : Env) (R : Room) (s : State) (mt : MethodId) (args : Array Value) (below : List Frame) (meth : Method) (c : Code) (Q : State → Prop) (H : Heap) (locs : List Loc) (lc : Array Slot) (sc : List Value) (c0 s0 : Nat),
    p.tables.exec = Jvm.exec → c.code = (zmd mi).2.1 → c.maxLocals = zmx mi → s.vm.findClass (zown mi) = some mt.cls → zK E D cA H0 scr s → (mi ≠ 258 → meth.name = (zmd mi).1.name) → zfr mi ≤ R.frames → zlo mi ≤ R.locals → c0 ≤ zcells L → s0 ≤ zslots L → zcells L' - c0 ≤ R.cells ∧ zslots L' - s0 ≤ R.slots →
    zTold p l e R s mt args below meth c Q E D cA H0 scr (zmd mi).2.1 (zcl mi) c0 s0 → zlr E (zmx mi) ls lc → zsr E st sc → zhr E D cA H0 scr L m H → (∀ q ∈ locs, E.1 ≤ q.base) →
    (∀ (pc' : Nat) (i : Instr) (lc' : Array Slot) (sc' : List Value) (H' : Heap) (locs' : List Loc), decode (zmd mi).2.1 pc' = .ok (i, 1) → zend E (zrk mi) r i sc' → zhr E D cA H0 scr L' m' H' → (∀ q ∈ locs', E.1 ≤ q.base) → W p l e R s mt args below meth c H' locs' (zcells L' - c0) (zslots L' - s0) Q (F0 mt pc' lc' sc')) →
    W p l e R s mt args below meth c H locs (zcells L - c0) (zslots L - s0) Q (F0 mt pc lc sc)
set_option maxHeartbeats 4000000 in
theorem z_met {l : Launch} {E : zE} {D : va_G} {cA : Nat → ClassId} {H0 : Heap} {scr : Cell} {n k : Nat} (IH : zSnd l E D cA H0 scr n) (hk : k < 268) (hk2 : k ≠ 258) {as : List zV} {ac : List Value} {L L1 : zY} {m m1 : zM} {r : Option zV} (hsum : (as.map zcat).sum ≤ zmx k) (hev : zev n k 0 (zent (zmx k) as) [] L m = some (r, L1, m1)) (has : zsr E as ac) :
    Met l (zmd k).1 (zwsm k) ({ frames := zfr k, cells := zcells L1 - zcells L, slots := zslots L1 - zslots L, locals := zlo k }) (zPc E D cA H0 scr L m ac) (zQc E D cA H0 scr L1 m1 r) (zcells L1 - zcells L) (zslots L1 - zslots L) (fun q => E.1 ≤ q) := by
  obtain ⟨hmk, hret⟩ := zmchk_all k hk hk2
  unfold zmchk at hmk
  generalize zmpl.getD k (9, 0, 0, 0, 0) = q5 at hmk
  obtain ⟨kd, p1, p2, p3, p4⟩ := q5
  simp only [decide_eq_true_eq] at hmk
  obtain ⟨-, -, -, -, hpl, -, -, hown0, -⟩ := hmk
  refine Met.ofW (cc := (zmd k).2.1) (maxL := zmx k) (ret := (zmd k).2.2) hpl rfl ?_
  intro p e s mt args below meth c s₁ B hml hv
  obtain ⟨rfl, hh, hK⟩ := hv
  have hx := B.exec
  have hb := B.bytes
  have hr := B.returns
  have hown : s.vm.findClass (zmd k).1.cls = some mt.cls := findClass_of_methodNamed B.named
  have hnm : meth.name = (zmd k).1.name := (name_of_methodNamed B.named B.method).1
  have hlocks := B.notSynchronized
  rw [lg_entry_eq]
  have hlr := zent_lr (n := zmx k) has hsum
  generalize ((lg_sl ac ++ List.replicate (zmx k - (lg_sl ac).length) Slot.unset).toArray) = lc at hlr ⊢
  have key := IH k 0 (zent (zmx k) as) [] L m r L1 m1 hev hk p e (headSpec (zwsm k) { frames := zfr k, cells := zcells L1 - zcells L, slots := zslots L1 - zslots L, locals := zlo k }).room s mt ac.toArray below meth c
    (MQ below (zQc E D cA H0 scr L1 m1 r) ac.toArray s (zcells L1 - zcells L) (zslots L1 - zslots L) (fun q => E.1 ≤ q)) s.heap [] lc [] (zcells L) (zslots L) hx hb hml (by rw [hown0]; exact hown) hK (fun _ => hnm) (Nat.le_refl _) (Nat.le_refl _) (Nat.le_refl _) (Nat.le_refl _) ⟨Nat.le_refl _, Nat.le_refl _⟩ (zTold_vac (zcl_law k hk hk2)) hlr trivial hh (fun _ h => by cases h) ?_
  · rw [Nat.sub_self, Nat.sub_self] at key
    exact key
  · intro pc' i lc' sc' H' locs' hd he hh' ho
    rcases he with ⟨rfl, x, v, rfl, rfl, rfl, hx2⟩ | ⟨rfl, hrk, x, v, rfl, rfl, rfl⟩ | ⟨rfl, hrk, a, rfl, rfl⟩ | ⟨rfl, hrk, rfl, rfl⟩
    · have hq : ∀ t : State, t.heap = H' → s.WarmedH t.vm → zQc E D cA H0 scr L1 m1 (some (.inl v.toInt)) ac.toArray s (.returned (some (.int v))) t := fun t ht _ => ⟨_, rfl, ⟨v, rfl, rfl⟩, by rw [ht]; exact hh'⟩
      unfold zretok at hret
      rcases hx2 with h0 | ⟨h1, h1b⟩ | ⟨h2, h2b⟩ | ⟨h3, h3b⟩
      · rw [h0] at hret
        have hrt : (zmd k).2.2 = some .int := by
          revert hret
          cases hz : (zmd k).2.2 with
          | none => intro h; cases h
          | some ty => cases ty <;> intro h <;> first | rfl | cases h
        exact W.iret hx hb (by rw [hr, hrt]) hq ho hd
      · rw [h1] at hret
        have hrt : (zmd k).2.2 = some .boolean := by
          revert hret
          cases hz : (zmd k).2.2 with
          | none => intro h; cases h
          | some ty => cases ty <;> intro h <;> first | rfl | cases h
        have hv01 : v = 0 ∨ v = 1 := by
          rcases h1b with h | h
          · exact Or.inl (Int32.toInt_inj.mp h)
          · exact Or.inr (Int32.toInt_inj.mp h)
        exact W.zret (ty := .boolean) hx hb (by rw [hr, hrt]) (by rcases hv01 with rfl | rfl <;> decide) hq ho hd
      · rw [h2] at hret
        have hrt : (zmd k).2.2 = some .char := by
          revert hret
          cases hz : (zmd k).2.2 with
          | none => intro h; cases h
          | some ty => cases ty <;> intro h <;> first | rfl | cases h
        exact W.zret (ty := .char) hx hb (by rw [hr, hrt]) (z_nchar h2b) hq ho hd
      · rw [h3] at hret
        have hrt : (zmd k).2.2 = some .byte := by
          revert hret
          cases hz : (zmd k).2.2 with
          | none => intro h; cases h
          | some ty => cases ty <;> intro h <;> first | rfl | cases h
        exact W.zret (ty := .byte) hx hb (by rw [hr, hrt]) (z_nbyte h3b) hq ho hd
    · unfold zretok at hret
      rw [hrk] at hret
      have hrt : (zmd k).2.2 = some .long := by
        revert hret
        cases hz : (zmd k).2.2 with
        | none => intro h; cases h
        | some ty => cases ty <;> intro h <;> first | rfl | cases h
      exact W.lret hx hb (by rw [hr, hrt]) (fun t ht _ => ⟨_, rfl, ⟨v, rfl, rfl⟩, by rw [ht]; exact hh'⟩) ho hd
    · unfold zretok at hret
      rw [hrk] at hret
      have hrt : ∃ n, (zmd k).2.2 = some (.object n) := by
        revert hret
        cases hz : (zmd k).2.2 with
        | none => intro h; cases h
        | some ty => cases ty <;> intro h <;> first | exact ⟨_, rfl⟩ | cases h
      obtain ⟨nn, hrt⟩ := hrt
      exact W.aret hx hb (by rw [hr, hrt]) (Or.inl ⟨nn, rfl⟩) (z_ref (E := E) (a := a) rfl) (fun t ht _ => ⟨_, rfl, rfl, by rw [ht]; exact hh'⟩) ho hd
    · unfold zretok at hret
      rw [hrk] at hret
      have hrt : (zmd k).2.2 = none := by
        revert hret
        cases hz : (zmd k).2.2 with
        | none => intro _; rfl
        | some ty => intro h; cases ty <;> cases h
      exact W.vret hx hb (by rw [hr, hrt]) (fun t ht _ => ⟨_, rfl, trivial, by rw [ht]; exact hh'⟩) ho hd
end ZJ
