/-! told, out of the law -/
theorem yy_at : ∀ w ∈ vx_at0 RX9 339 zNS ["java/lang/RuntimeException", "java/lang/Exception"], (zgw w = true ∧ w ∈ lw_tbl) ∨ w = .castable zNS zNS ∨ w = .declares (Bundle.init0 "java/lang/RuntimeException") ∨ w = .declares (Bundle.init0 "java/lang/Exception") ∨ w = .declares (Bundle.init0 Bundle.tN) := by decide +kernel
theorem yy_good : ∀ w ∈ Cond.classLink RX9 337 zNS :: Cond.initialized zNS :: vx_at0 RX9 339 zNS ["java/lang/RuntimeException", "java/lang/Exception"], vx_ot w = true := by decide +kernel
theorem yy_m1 : Cond.classLink RX9 337 zNS ∈ lw_tbl := by decide +kernel
theorem yy_m2 : Cond.initialized zNS ∈ lw_tbl := by decide +kernel
theorem zK.wd {E : zE} {D : va_G} {cA : Nat → ClassId} {H0 : Heap} {scr : Cell} {s U : State} {args : Array Value} (h : zK E D cA H0 scr s) {w : Cond} (hi : w ∈ lw_tbl) (hg : zgw w = true) (hW : s.WarmedH U.vm) : w.before args U = true :=
  zgw_warm hg hW (h.2.1 w hi hg)
theorem zK.w0 {E : zE} {D : va_G} {cA : Nat → ClassId} {H0 : Heap} {scr : Cell} {s : State} {args : Array Value} (h : zK E D cA H0 scr s) {w : Cond} (hi : w ∈ lw_tbl) (hg : zgw w = true) : w.before args s = true := h.wd hi hg (State.WarmedH.refl s)
set_option maxHeartbeats 4000000 in
theorem yy_x9 {l : Launch} (hl : l.stackTraces = false) {E : zE} {D : va_G} {cA : Nat → ClassId} {H0 : Heap} {scr : Cell} {L : zY} {m : zM} {a : Nat} {x y : Int32} (h2 : 2 ≤ a) (ha : zt L a = 10) (hc : zt L (m a 9).toNat = 6) (hq : 0 ≤ x.toInt → x.toInt ≤ 2 → zt L (yyQ m (m a 9).toNat x.toInt) = 2) (hno : ¬ (m a 11 = 1 ∧ 0 ≤ x.toInt ∧ x.toInt ≤ 2 ∧ 0 ≤ y.toInt ∧ y.toInt < m (yyQ m (m a 9).toNat x.toInt) 1)) :
    vx_Met l (zmd 153).1 (zwsm 153) { frames := 7, cells := 1, slots := 6, locals := 250 } (yyPc E D cA H0 scr L m [.ref (E.1 + (a - 2)), .int x, .int y]) (fun _ _ _ _ => False) (fun E9 _ t => E9 = zNS ∧ zhr E D cA H0 scr (L.1, (L.2.1 + 1, L.2.2 + 6)) m t.heap) 1 6 (fun q => E.1 ≤ q) := by
  refine vx_ofW (cc := (zmd 153).2.1) (maxL := zmx 153) (ret := (zmd 153).2.2) (by decide +kernel) rfl ?_
  intro p e s mt args below meth c s₁ B hml ht hv
  obtain ⟨⟨rfl, hh, hK⟩, hX⟩ := hv
  have hx := B.exec
  have hb := B.bytes
  have hown : s.vm.findClass (zmd 153).1.cls = some mt.cls := findClass_of_methodNamed B.named
  have hown9 : s.vm.findClass RX9 = some mt.cls := hown
  have hnm : meth.name = (zmd 153).1.name := (name_of_methodNamed B.named B.method).1
  have hlocks := B.notSynchronized
  have has : zsr E [zA a, zI x.toInt, zI y.toInt] [.ref (E.1 + (a - 2)), .int x, .int y] := ⟨(zad_two h2).symm, ⟨x, rfl, rfl⟩, ⟨y, rfl, rfl⟩, trivial⟩
  have hlr := zent_lr (n := zmx 153) has (Nat.le_of_ble_eq_true rfl)
  rw [lg_entry_eq]
  generalize ((lg_sl [Value.ref (E.1 + (a - 2)), .int x, .int y] ++ List.replicate (zmx 153 - (lg_sl [Value.ref (E.1 + (a - 2)), .int x, .int y]).length) Slot.unset).toArray) = lc at hlr ⊢
  have hb01 : m a 11 = 0 ∨ m a 11 = 1 := by
    obtain ⟨z1, z2⟩ := zhr_cell hh (a := a) (by omega) h2
    rw [ha] at z1 z2
    rcases z2 with ⟨-, -, -, z3, -⟩ | ⟨z3, -⟩
    · have h := z1 11 (by rw [z3]; decide +kernel)
      rw [show zkd 10 11 = 1 by decide +kernel] at h
      exact h
    · omega
  have C : yyC p (headSpec (zwsm 153) { frames := 7, cells := 1, slots := 6, locals := 250 }).room s mt meth c E D cA H0 scr 153 := ⟨hx, hb, hml, hown, hK, hnm, by decide, by decide, (by decide +kernel : zfr 153 ≤ 7), (by decide +kernel : zlo 153 ≤ 250)⟩
  have key := yy_run (p := p) (l := l) (e := e) (R := (headSpec (zwsm 153) { frames := 7, cells := 1, slots := 6, locals := 250 }).room) (s := s) (mt := mt) (args := [Value.ref (E.1 + (a - 2)), .int x, .int y].toArray) (below := below) (meth := meth) (c := c)
    (Q := vx_MQ below (fun _ _ _ _ => False) (fun E9 _ t => E9 = zNS ∧ zhr E D cA H0 scr (L.1, (L.2.1 + 1, L.2.2 + 6)) m t.heap) [Value.ref (E.1 + (a - 2)), .int x, .int y].toArray s 1 6 (fun q => E.1 ≤ q)) (E := E) (D := D) (cA := cA) (H0 := H0) (scr := scr) (L := L) (m := m) (a := a) (x := x.toInt) (y := y.toInt) C ha hc hb01 hq hno ?_
  · have k2 := key s.heap [] lc [] hlr trivial hh (fun _ h => by cases h)
    rw [Nat.sub_self, Nat.sub_self] at k2
    exact k2
  · intro q H locs lc2 sc hlr2 hs2 hh2 ho2
    rw [zsr_nil hs2]
    refine zx_throw0 (own := RX9) (cls := zNS) (names := ["java/lang/RuntimeException", "java/lang/Exception"]) (ik := 337) (ic := 339) (A := fun q => E.1 ≤ q) hx hb hl hown9 (by decide +kernel) (by decide +kernel) (hK.w0 yy_m1 (by rfl)) (hK.w0 yy_m2 (by rfl)) (fun w hw => ?_) yy_good (hX.2.1.kept (z_keep hK hh)) (hX.2.2.kept (z_keep hK hh)) ?_ (hlr2.1.trans hml.symm) (by decide +kernel) (by decide +kernel) (by decide +kernel) (by decide +kernel) (fun x hx => (ht x hx).elim) (by show 2 + 3 < 7; decide) (by show 0 + (13 * (2 + 1) + 42) ≤ 250; decide) (by show zcells L - zcells L + 1 ≤ 1; omega) (by show zslots L - zslots L + 6 ≤ 6; omega) hlocks (fun t _ hsz hk => ⟨rfl, zhr_garb hh2 hsz hk⟩) ho2 (by omega) (by omega)
    · rcases yy_at w hw with ⟨h1, h2⟩ | rfl | rfl | rfl | rfl
      · exact hK.w0 h2 h1
      · exact va_Nw.use rfl hX.1.1
      · exact va_Nw.use rfl hX.1.2.1
      · exact va_Nw.use rfl hX.1.2.2.1
      · exact va_Nw.use rfl hX.1.2.2.2
    · have e1 := hh.2.2.2.2.1
      have e2 := hh2.2.2.2.2.1
      exact ⟨by omega, fun q _ hq => by
        have hq : ¬ E.1 ≤ q := hq
        rw [hh2.2.2.2.2.2.1 q (by omega), hh.2.2.2.2.2.1 q (by omega)], ho2⟩
/-! the law's own told -/
def yyws : List Cond := [.codeWith yL_told cL_told 5 (some .int) [(0, 10, 13, 13)]]
theorem yy_m3 : Cond.codeWith yL_told cL_told 5 (some .int) [(0, 10, 13, 13)] ∈ lw_tbl := by decide +kernel
theorem yy_m4 : Cond.classLink RL 13 zNS ∈ lw_tbl := by decide +kernel
theorem yy_m5 : Cond.methodLink RL 7 (zmd 153).1 ∈ lw_tbl := by decide +kernel
theorem yy_m6 : Cond.instanceMethod (zmd 153).1 ∈ lw_tbl := by decide +kernel
theorem yy_m7 : Cond.selects RX9 (zmd 153).1 (zmd 153).1 ∈ lw_tbl := by decide +kernel
theorem yy_m8 : Cond.initialized (zmd 153).1.cls ∈ lw_tbl := by decide +kernel
theorem yy_m9 : Cond.code (zmd 153).1 (zmd 153).2.1 (zmx 153) (zmd 153).2.2 ∈ lw_tbl := by decide +kernel
theorem yy_m10 : Cond.methodLink RL 141 yL_told ∈ lw_tbl := by decide +kernel
theorem yy_m11 : Cond.static yL_told ∈ lw_tbl := by decide +kernel
theorem yy_m12 : Cond.initialized yL_told.cls ∈ lw_tbl := by decide +kernel
theorem yy_d0 : decode cL_told 0 = .ok (.aload_n 3, 1) := by decide +kernel
theorem yy_d1 : decode cL_told 1 = .ok (.iconst 0, 1) := by decide +kernel
theorem yy_d2 : decode cL_told 2 = .ok (.aload_n 0, 1) := by decide +kernel
theorem yy_d3 : decode cL_told 3 = .ok (.iload_n 1, 1) := by decide +kernel
theorem yy_d4 : decode cL_told 4 = .ok (.iload_n 2, 1) := by decide +kernel
theorem yy_d5 : decode cL_told 5 = .ok (.invokevirtual 7, 3) := by decide +kernel
theorem yy_d8 : decode cL_told 8 = .ok (.i2l, 1) := by decide +kernel
theorem yy_d9 : decode cL_told 9 = .ok (.lastore, 1) := by decide +kernel
theorem yy_d10 : decode cL_told 10 = .ok (.goto 7, 3) := by decide +kernel
theorem yy_d13 : decode cL_told 13 = .ok (.astore 4, 2) := by decide +kernel
theorem yy_d15 : decode cL_told 15 = .ok (.iconst 1, 1) := by decide +kernel
theorem yy_d16 : decode cL_told 16 = .ok (.ireturn, 1) := by decide +kernel
theorem yy_d17 : decode cL_told 17 = .ok (.iconst 0, 1) := by decide +kernel
theorem yy_d18 : decode cL_told 18 = .ok (.ireturn, 1) := by decide +kernel
theorem yy_sig : ∀ sig, parseMethodDescriptor (zmd 153).1.desc = some sig → 2 = sig.parameters.length := fun sig h => by
  have h2 : (parseMethodDescriptor (zmd 153).1.desc).map (fun d => d.parameters.length) = some 2 := by decide +kernel
  rw [h] at h2
  exact (Option.some.inj h2).symm
theorem yy_sigL : ∀ sig, parseMethodDescriptor yL_told.desc = some sig → 4 = sig.parameters.length := fun sig h => by
  have h2 : (parseMethodDescriptor yL_told.desc).map (fun d => d.parameters.length) = some 4 := by decide +kernel
  rw [h] at h2
  exact (Option.some.inj h2).symm
theorem yy_recv {E : zE} {D : va_G} {cA : Nat → ClassId} {H0 : Heap} {scr : Cell} {L : zY} {m : zM} {a : Nat} {H : Heap} {s : State} (hK : zK E D cA H0 scr s) (hh : zhr E D cA H0 scr L m H) (h2 : 2 ≤ a) (ha : zt L a = 10) : ∃ cellB : Cell, H[E.1 + (a - 2)]? = some cellB ∧ cellB.vm.isStatics = false ∧ s.vm.findClass RX9 = some cellB.cls := by
  obtain ⟨z1, z2⟩ := zhr_cell hh (a := a) (by omega) h2
  rw [ha] at z1 z2
  rcases z2 with ⟨-, -, -, -, cell, q1, q2, q3, -⟩ | ⟨z3, -⟩
  · refine ⟨cell, q1, by rw [q3]; rfl, ?_⟩
    rw [q2]
    exact (hK.1.1 9 (RX9, TX9, 15) rfl).2.1
  · omega
theorem yy_wsm {E : zE} {D : va_G} {cA : Nat → ClassId} {H0 : Heap} {scr : Cell} {s : State} (hK : zK E D cA H0 scr s) : ∀ w ∈ zwsm 153, ∀ (a' : Array Value) (U : State), s.WarmedH U.vm → w.before a' U = true := fun w hw a' U hW => by
  rw [zwsm, List.mem_singleton] at hw
  subst hw
  exact hK.wd yy_m9 (by rfl) hW
set_option maxHeartbeats 4000000 in
theorem yy_lawX {l : Launch} (hl : l.stackTraces = false) {E : zE} {D : va_G} {cA : Nat → ClassId} {H0 : Heap} {scr : Cell} {L : zY} {m : zM} {a w : Nat} {x y : Int32} (h2 : 2 ≤ a) (ha : zt L a = 10) (hc : zt L (m a 9).toNat = 6) (hq : 0 ≤ x.toInt → x.toInt ≤ 2 → zt L (yyQ m (m a 9).toNat x.toInt) = 2) (hno : ¬ (m a 11 = 1 ∧ 0 ≤ x.toInt ∧ x.toInt ≤ 2 ∧ 0 ≤ y.toInt ∧ y.toInt < m (yyQ m (m a 9).toNat x.toInt) 1)) :
    vx_Met l yL_told yyws { frames := 8, cells := 1, slots := 6, locals := 276 } (yyPc E D cA H0 scr L m [.ref (E.1 + (a - 2)), .int x, .int y, .ref w]) (zQc E D cA H0 scr (L.1, (L.2.1 + 1, L.2.2 + 6)) m (some (zI 1))) (fun _ _ _ => False) 1 6 (fun q => E.1 ≤ q) := by
  have hM := yy_x9 (E := E) (D := D) (cA := cA) (H0 := H0) (scr := scr) hl h2 ha hc hq hno
  refine vx_ofWH (cc := cL_told) (maxL := 5) (ret := some .int) (hh := [(0, 10, 13, 13)]) (by decide +kernel) rfl ?_
  intro p e s mt args below meth c s₁ B hml hv
  obtain ⟨⟨rfl, hh, hK⟩, hX⟩ := hv
  have hx := B.exec
  have hb := B.bytes
  have hr := B.returns
  have hlocks := B.notSynchronized
  have hown : s.vm.findClass RL = some mt.cls := findClass_of_methodNamed B.named
  have hl5 := lv_entry ([.ref (E.1 + (a - 2)), .int x, .int y, .ref w]) (n := 5) (Nat.le_of_ble_eq_true rfl)
  rw [lg_entry_eq]
  generalize (lg_sl ([.ref (E.1 + (a - 2)), .int x, .int y, .ref w]) ++ List.replicate (5 - (lg_sl ([.ref (E.1 + (a - 2)), .int x, .int y, .ref w])).length) Slot.unset).toArray = ls at hl5 ⊢
  have hl5 : lv_has ls 5 [(0, .ref (E.1 + (a - 2))), (1, .int x), (2, .int y), (3, .ref w)] := hl5
  refine lv_aload_n hx hb yy_d0 rfl (lv_at hl5 3 rfl) ?_
  refine lv_iconst (v := 0) hx hb yy_d1 (by decide) ?_
  refine lv_aload_n hx hb yy_d2 rfl (lv_at hl5 0 rfl) ?_
  refine lv_iload_n hx hb yy_d3 rfl (lv_at hl5 1 rfl) ?_
  refine lv_iload_n hx hb yy_d4 rfl (lv_at hl5 2 rfl) ?_
  have hfx : CallFix p mt c cL_told 5 s [Value.ref (E.1 + (a - 2)), .int x, .int y, .ref w].toArray ([] : List Cond) RL := ⟨hx, hb, hml, hown, fun w hw => by cases hw⟩
  have cw : CallW (headSpec yyws { frames := 8, cells := 1, slots := 6, locals := 276 }).room s [Value.ref (E.1 + (a - 2)), .int x, .int y, .ref w].toArray RL RX9 7 (zmd 153).1 (zmd 153).2.1 (zmx 153) (zmd 153).2.2 (zwsm 153) ({ frames := 7, cells := 1, slots := 6, locals := 250 } : Room) 1 6 2 :=
    ⟨⟨rfl, rfl, (by show 7 + 1 ≤ 8; decide), (by show 8 + (4 + 11) + 250 ≤ 276; decide), yy_wsm hK, List.mem_singleton.mpr rfl, hK.w0 yy_m9 (by rfl), hK.w0 yy_m8 (by rfl), ⟨by decide +kernel, by decide +kernel⟩, yy_sig, hK.w0 yy_m5 (by rfl)⟩, hK.w0 yy_m6 (by rfl), hK.w0 yy_m7 (by rfl)⟩
  have hpre : PreV s s.heap RX9 (E.1 + (a - 2)) (yyPc E D cA H0 scr L m [.ref (E.1 + (a - 2)), .int x, .int y]) [.int x, .int y] := ⟨yyPc_blind, yy_recv hK hh h2 ha, fun U hU hW => ⟨⟨rfl, by rw [hU]; exact hh, hK.warm hW⟩, hX.warm hW⟩⟩
  have run := vx_runV (g := F0 mt 5 ls [.int y, .int x, .ref (E.1 + (a - 2)), .int 0, .ref w]) (rest := [.int 0, .ref w]) (As := [.int x, .int y]) (l := l) (e := e) (below := below) (meth := meth) (locs := []) (cells := 0) (slots := 0) hfx hM cw hpre rfl rfl hl5.1 rfl (lv_room (Nat.le_of_ble_eq_true rfl)) yy_d5 ⟨by show 0 + 1 ≤ 1; decide, by show 0 + 6 ≤ 6; decide⟩
  intro T hT X
  rcases run T hT X with ⟨v, st₀, t, T', L9, h0, X', hL, e1, e2, hq9, st⟩ | ⟨q, st₀, t, T', L9, E9, ce, h0, X', hL, e1, e2, ⟨rfl, hh1⟩, hce, hcv, hcl, st⟩
  · exact hq9.elim
  · have cont : W p l e (headSpec yyws { frames := 8, cells := 1, slots := 6, locals := 276 }).room s mt [Value.ref (E.1 + (a - 2)), .int x, .int y, .ref w].toArray below meth c T'.heap ([] ++ L9) (0 + 1) (0 + 6) (vx_MQ below (zQc E D cA H0 scr (L.1, (L.2.1 + 1, L.2.2 + 6)) m (some (zI 1))) (fun _ _ _ => False) [Value.ref (E.1 + (a - 2)), .int x, .int y, .ref w].toArray s 1 6 (fun q => E.1 ≤ q)) (F0 mt 13 ls [.ref q]) := by
      refine lv_astore (lv' := [(4, .ref q), (0, .ref (E.1 + (a - 2))), (1, .int x), (2, .int y), (3, .ref w)]) hx hb yy_d13 hl5 (by decide) rfl (fun ls hl6 => ?_)
      refine lv_iconst (v := 1) hx hb yy_d15 (by decide) ?_
      exact vx_ret (W.iret hx hb hr (fun t2 ht2 _ => ⟨_, rfl, ⟨1, rfl, rfl⟩, by rw [ht2, e1]; exact hh1⟩) (fun z hz => hL z hz) yy_d16)
    have hc2 := vx_catch (own := RL) (name := zNS) (E := zNS) (pc := 5) (rest := [.int 0, .ref w]) (ls := ls) hown [] ⟨0, 10, 13, 13⟩ [] (by rw [vx_table (x := yL_told) B (hK.w0 yy_m3 (by rfl))]; rfl) (fun z hz => by cases hz) (by decide) (by decide) (hK.w0 yy_m4 (by rfl)) (va_Nw.use rfl hX.1.1) (by rw [e1]; exact hce) hcv hcl cont
    obtain ⟨t2, a1, b1⟩ := hc2 T' rfl X'
    exact ⟨t2, st.trans a1, b1⟩
set_option maxHeartbeats 4000000 in
theorem yy_lawN {l : Launch} {E : zE} {D : va_G} {cA : Nat → ClassId} {H0 : Heap} {scr : Cell} {L : zY} {m : zM} {a o : Nat} {x y : Int32} {z : Int} (h2 : 2 ≤ a) (ha : zt L a = 10) (ho2 : 2 ≤ o) (hot : zt L o = 21) (hon : 0 < zn L o) (hev : ∃ n, zev n 153 0 (zent (zmx 153) [zA a, zI x.toInt, zI y.toInt]) [] L m = some (some (zI z), L, m)) :
    vx_Met l yL_told yyws { frames := 8, cells := 0, slots := 0, locals := 276 } (yyPc E D cA H0 scr L m [.ref (E.1 + (a - 2)), .int x, .int y, .ref (E.1 + (o - 2))]) (zQc E D cA H0 scr L (zup m o 0 z) (some (zI 0))) (fun _ _ _ => False) 0 0 (fun q => E.1 ≤ q) := by
  obtain ⟨n, hev⟩ := hev
  have has : zsr E [zA a, zI x.toInt, zI y.toInt] [.ref (E.1 + (a - 2)), .int x, .int y] := ⟨(zad_two h2).symm, ⟨x, rfl, rfl⟩, ⟨y, rfl, rfl⟩, trivial⟩
  have hM := z_met (z_sound l E D cA H0 scr n) (k := 153) (by decide) (by decide) (Nat.le_of_ble_eq_true rfl) hev has
  rw [Nat.sub_self, Nat.sub_self] at hM
  refine vx_ofWH (cc := cL_told) (maxL := 5) (ret := some .int) (hh := [(0, 10, 13, 13)]) (by decide +kernel) rfl ?_
  intro p e s mt args below meth c s₁ B hml hv
  obtain ⟨⟨rfl, hh, hK⟩, hX⟩ := hv
  have hx := B.exec
  have hb := B.bytes
  have hr := B.returns
  have hlocks := B.notSynchronized
  have hown : s.vm.findClass RL = some mt.cls := findClass_of_methodNamed B.named
  have hl5 := lv_entry ([.ref (E.1 + (a - 2)), .int x, .int y, .ref (E.1 + (o - 2))]) (n := 5) (Nat.le_of_ble_eq_true rfl)
  rw [lg_entry_eq]
  generalize (lg_sl ([.ref (E.1 + (a - 2)), .int x, .int y, .ref (E.1 + (o - 2))]) ++ List.replicate (5 - (lg_sl ([.ref (E.1 + (a - 2)), .int x, .int y, .ref (E.1 + (o - 2))])).length) Slot.unset).toArray = ls at hl5 ⊢
  have hl5 : lv_has ls 5 [(0, .ref (E.1 + (a - 2))), (1, .int x), (2, .int y), (3, .ref (E.1 + (o - 2)))] := hl5
  refine lv_aload_n hx hb yy_d0 rfl (lv_at hl5 3 rfl) ?_
  refine lv_iconst (v := 0) hx hb yy_d1 (by decide) ?_
  refine lv_aload_n hx hb yy_d2 rfl (lv_at hl5 0 rfl) ?_
  refine lv_iload_n hx hb yy_d3 rfl (lv_at hl5 1 rfl) ?_
  refine lv_iload_n hx hb yy_d4 rfl (lv_at hl5 2 rfl) ?_
  have hfx : CallFix p mt c cL_told 5 s [Value.ref (E.1 + (a - 2)), .int x, .int y, .ref (E.1 + (o - 2))].toArray ([] : List Cond) RL := ⟨hx, hb, hml, hown, fun w hw => by cases hw⟩
  have cw : CallW (headSpec yyws { frames := 8, cells := 0, slots := 0, locals := 276 }).room s [Value.ref (E.1 + (a - 2)), .int x, .int y, .ref (E.1 + (o - 2))].toArray RL RX9 7 (zmd 153).1 (zmd 153).2.1 (zmx 153) (zmd 153).2.2 (zwsm 153) ({ frames := zfr 153, cells := 0, slots := 0, locals := zlo 153 } : Room) 0 0 2 :=
    ⟨⟨rfl, rfl, (by decide +kernel : zfr 153 + 1 ≤ 8), (by decide +kernel : 8 + (zmx 153 + 11) + zlo 153 ≤ 276), yy_wsm hK, List.mem_singleton.mpr rfl, hK.w0 yy_m9 (by rfl), hK.w0 yy_m8 (by rfl), ⟨by decide +kernel, by decide +kernel⟩, yy_sig, hK.w0 yy_m5 (by rfl)⟩, hK.w0 yy_m6 (by rfl), hK.w0 yy_m7 (by rfl)⟩
  have hpre : PreV s s.heap RX9 (E.1 + (a - 2)) (zPc E D cA H0 scr L m [.ref (E.1 + (a - 2)), .int x, .int y]) [.int x, .int y] := ⟨zPc_blind, yy_recv hK hh h2 ha, fun U hU hW => ⟨rfl, by rw [hU]; exact hh, hK.warm hW⟩⟩
  have run := va_runV (g := F0 mt 5 ls [.int y, .int x, .ref (E.1 + (a - 2)), .int 0, .ref (E.1 + (o - 2))]) (rest := [.int 0, .ref (E.1 + (o - 2))]) (As := [.int x, .int y]) (l := l) (e := e) (below := below) (meth := meth) (locs := []) (cells := 0) (slots := 0) hfx hM cw hpre rfl rfl hl5.1 rfl (lv_room (Nat.le_of_ble_eq_true rfl)) yy_d5 ⟨by show 0 + 0 ≤ 0; decide, by show 0 + 0 ≤ 0; decide⟩
  intro T hT X
  obtain ⟨v, st₀, t, T', L9, h0, X', hL, e1, e2, ⟨v', hv, hrv, hh1⟩, st⟩ := run T hT X
  cases hv
  cases v with
  | none => exact hrv.elim
  | some b9 =>
    obtain ⟨i, rfl, hi⟩ := hrv
    have cont : W p l e (headSpec yyws { frames := 8, cells := 0, slots := 0, locals := 276 }).room s mt [Value.ref (E.1 + (a - 2)), .int x, .int y, .ref (E.1 + (o - 2))].toArray below meth c T'.heap ([] ++ L9) (0 + 0) (0 + 0) (vx_MQ below (zQc E D cA H0 scr L (zup m o 0 z) (some (zI 0))) (fun _ _ _ => False) [Value.ref (E.1 + (a - 2)), .int x, .int y, .ref (E.1 + (o - 2))].toArray s 0 0 (fun q => E.1 ≤ q)) (F0 mt 8 ls [.int i, .int 0, .ref (E.1 + (o - 2))]) := by
      refine lv_i2l hx hb yy_d8 rfl ?_
      rw [← zad_two (E := E) ho2]
      refine zx_last (L := L) (m := m) (a := o) (i := 0) (j := i.toInt64) hx hb hK (by rw [e1]; exact hh1) (fun z hz => hL z hz) hot (by decide) (by rw [show (0 : Int32).toInt = 0 by decide]; omega) yy_d9 (fun H1 locs1 hh2 ho1 => ?_)
      rw [show (0 : Int32).toInt.toNat = 0 by decide, Int32.toInt_toInt64, hi] at hh2
      refine lv_goto (tgt := 17) hx hb yy_d10 (by decide) ?_
      refine lv_iconst (v := 0) hx hb yy_d17 (by decide) ?_
      exact vx_ret (W.iret hx hb hr (fun t2 ht2 _ => ⟨_, rfl, ⟨0, rfl, rfl⟩, by rw [ht2]; exact hh2⟩) ho1 yy_d18)
    obtain ⟨t2, a1, b1⟩ := cont T' rfl X'
    exact ⟨t2, st t2 a1, b1⟩
/-- the class's told where it answers -/
theorem yy_ans {L : zY} {m : zM} {a : Nat} {x y : Int} (ha : zt L a = 10) (hc : zt L (m a 9).toNat = 6) (hb : m a 11 = 1) (hx : 0 ≤ x ∧ x ≤ 2) (hq : zt L (yyQ m (m a 9).toNat x) = 2) (hk : zt L (m (yyQ m (m a 9).toNat x) 0).toNat = 20) (hy : 0 ≤ y ∧ y < m (yyQ m (m a 9).toNat x) 1) (hn : m (yyQ m (m a 9).toNat x) 1 ≤ zn L (m (yyQ m (m a 9).toNat x) 0).toNat) (h0 : zt L 0 = 0) : ∃ n, zev n 153 0 (zent (zmx 153) [zA a, zI x, zI y]) [] L m = some (some (zI (m (m (yyQ m (m a 9).toNat x) 0).toNat y.toNat)), L, m) := by
  have h : zwp 153 0 [zA a, zI x, zI y, zU] [] L m (fun r L' m' => r = some (zI (m (m (yyQ m (m a 9).toNat x) 0).toNat y.toNat)) ∧ L' = L ∧ m' = m) := by
    have hq0 : yyQ m (m a 9).toNat x ≠ 0 := fun e => by rw [e, h0] at hq; cases hq
    have d1 : ¬ y < 0 := by omega
    have d2 : ¬ m (yyQ m (m a 9).toNat x) 1 ≤ y := by omega
    obtain ⟨n1, e1⟩ := yy_toldOf (m := m) (x := x) hc
    rw [s153_0, s153_1]
    refine ⟨ha, ?_⟩
    rw [s153_4, s153_5]
    refine ⟨hc, n1, _, _, _, e1, ?_⟩
    generalize yyQ m (m a 9).toNat x = q at *
    simp only [s153_8, s153_9, s153_10, s153_13, s153_16, s153_17, s153_20, s153_21, s153_22, s153_25, s153_31, s153_36, s153_37, s153_38, s153_41, s8_0, s8_1, s8_4, s8_5, s8_6, s8_9, s8_12, s8_13, s8_16, s8_17, s9_0, s9_1, s9_2, s9_5, s9_8, s9_9, s9_12, s9_13, s9_14, s9_17, s9_19, Int.toNat_natCast, true_and, and_true, true_or, or_true, false_or, or_false, zwr_id, zpu_some, zpu_none, reduceIte, Int.reduceLE, Int.reduceLT, Int.reduceEq, Int.reduceNeg, Int.reduceAdd, Int.reduceSub, Int.reduceMul, Int.reduceToNat, Nat.reduceAdd, Nat.reduceLeDiff, Nat.reduceEqDiff, Nat.reduceLT, eq_self, ne_eq, not_false_eq_true, not_true_eq_false, ha, hb, hq, hk, if_neg d1, if_neg d2, if_neg hq0]
    exact ⟨hy.1, by omega⟩
  obtain ⟨n, r, L', m', h1, rfl, rfl, rfl⟩ := h
  exact ⟨n, h1⟩
