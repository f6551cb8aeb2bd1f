def znchk (q : Nat × (Nat × Nat)) : Bool := match zlk znpl q.1 with
  | some (pl, pi, pj) => decide ((1 ≤ q.2.1 ∧ q.2.1 ≤ 11 ∧ q.2.2 = (zcT (q.2.1 - 1)).2.2 ∧ lw_tbl[pl]? = some (.classLink (zowns.getD (q.1 / 10000) "") (q.1 % 10000) (zcT (q.2.1 - 1)).1) ∧ lw_tbl[pi]? = some (.instantiable (zcT (q.2.1 - 1)).1 q.2.2) ∧ lw_tbl[pj]? = some (.initialized (zcT (q.2.1 - 1)).1)) ∨ ((q.2.1 = 22 ∨ q.2.1 = 23) ∧ lw_tbl[pl]? = some (.classLink (zowns.getD (q.1 / 10000) "") (q.1 % 10000) ("[" ++ (zaty q.2.1).toString))))
  | none => false
theorem znchk_all : ∀ q ∈ znew, znchk q = true := by decide +kernel
theorem zkchk_all : ∀ q ∈ zcst, ∃ pl, zlk zkpl q.1 = some pl ∧ -2147483648 ≤ q.2 ∧ q.2 < 2147483648 ∧ lw_tbl[pl]? = some (.constant (zowns.getD (q.1 / 10000) "") (q.1 % 10000) (Int32.ofInt q.2)) := by
  intro q hq
  have h : ∀ q ∈ zcst, (match zlk zkpl q.1 with | some pl => decide (-2147483648 ≤ q.2 ∧ q.2 < 2147483648 ∧ lw_tbl[pl]? = some (.constant (zowns.getD (q.1 / 10000) "") (q.1 % 10000) (Int32.ofInt q.2))) | none => false) = true := by decide +kernel
  have h1 := h q hq
  split at h1
  · rename_i pl hp
    exact ⟨pl, hp, by simpa using h1⟩
  · cases h1
theorem zlchk_all : ∀ q ∈ zlng, ∃ pl, zlk zlpl q.1 = some pl ∧ -9223372036854775808 ≤ q.2 ∧ q.2 < 9223372036854775808 ∧ lw_tbl[pl]? = some (.constantLong (zowns.getD (q.1 / 10000) "") (q.1 % 10000) (Int64.ofInt q.2)) := by
  intro q hq
  have h : ∀ q ∈ zlng, (match zlk zlpl q.1 with | some pl => decide (-9223372036854775808 ≤ q.2 ∧ q.2 < 9223372036854775808 ∧ lw_tbl[pl]? = some (.constantLong (zowns.getD (q.1 / 10000) "") (q.1 % 10000) (Int64.ofInt q.2))) | none => false) = true := by decide +kernel
  have h1 := h q hq
  split at h1
  · rename_i pl hp
    exact ⟨pl, hp, by simpa using h1⟩
  · cases h1
theorem zgchk_all : ∀ q ∈ zgst, ∃ pl, zlk zgpl q.1 = some pl ∧ lw_tbl[pl]? = some (if q.2 = 0 then .fieldLink (zowns.getD (q.1 / 10000) "") (q.1 % 10000) "java/lang/String" "COMPACT_STRINGS" "Z" else .fieldLink (zowns.getD (q.1 / 10000) "") (q.1 % 10000) "jdk/internal/util/Preconditions" "SIOOBE_FORMATTER" "Ljava/util/function/BiFunction;") := by
  intro q hq
  have h : ∀ q ∈ zgst, (match zlk zgpl q.1 with | some pl => decide (lw_tbl[pl]? = some (if q.2 = 0 then .fieldLink (zowns.getD (q.1 / 10000) "") (q.1 % 10000) "java/lang/String" "COMPACT_STRINGS" "Z" else .fieldLink (zowns.getD (q.1 / 10000) "") (q.1 % 10000) "jdk/internal/util/Preconditions" "SIOOBE_FORMATTER" "Ljava/util/function/BiFunction;")) | none => false) = true := by decide +kernel
  have h1 := h q hq
  split at h1
  · rename_i pl hp
    exact ⟨pl, hp, by simpa using h1⟩
  · cases h1
/-- the texts' fields: value and coder -/
theorem zschk_all : ∀ q ∈ zfld, (q.2.2.2 = 5 ∨ q.2.2.2 = 6) → ∃ pl : Nat, lw_tbl[pl]? = some (if q.2.2.2 = 5 then Cond.fieldLink (zowns.getD (q.1 / 10000) "") (q.1 % 10000) "java/lang/String" "value" "[B" else Cond.fieldLink (zowns.getD (q.1 / 10000) "") (q.1 % 10000) "java/lang/String" "coder" "B") := by
  intro q hq h0
  have h : ∀ q ∈ zfld, (q.2.2.2 = 5 ∨ q.2.2.2 = 6) → (match zlk zsfp q.1 with | some pl => decide (lw_tbl[pl]? = some (if q.2.2.2 = 5 then .fieldLink (zowns.getD (q.1 / 10000) "") (q.1 % 10000) "java/lang/String" "value" "[B" else Cond.fieldLink (zowns.getD (q.1 / 10000) "") (q.1 % 10000) "java/lang/String" "coder" "B")) | none => false) = true := by decide +kernel
  have h1 := h q hq h0
  split at h1
  · rename_i pl hp
    exact ⟨pl, by simpa using h1⟩
  · cases h1
theorem zstr_all : ∀ q ∈ zstr, q.2 < 14 ∧ ∃ tx, zstx[q.2]? = some (zowns.getD (q.1 / 10000) "", q.1 % 10000, tx) := by
  intro q hq
  have h : ∀ q ∈ zstr, (match zstx[q.2]? with | some (o, k, _) => decide (q.2 < 14 ∧ o = zowns.getD (q.1 / 10000) "" ∧ k = q.1 % 10000) | none => false) = true := by decide +kernel
  have h1 := h q hq
  split at h1
  · rename_i o k tx hp
    simp only [decide_eq_true_eq] at h1
    obtain ⟨h2, rfl, rfl⟩ := h1
    exact ⟨h2, tx, hp⟩
  · cases h1
theorem zw_all : ∀ k, k < 14 → zslen.getD k 0 = zwlen k ∧ zwlen k < 100 ∧ (∀ j, j < zwlen k → (zsbyt.getD k []).getD j 0 = Int32.ofInt ((zwords.getD k []).getD j 0) ∧ 0 ≤ (zwords.getD k []).getD j 0 ∧ (zwords.getD k []).getD j 0 < 128) := by decide +kernel
section ZF
variable {p : Program} {l : Launch} {e : Env} {R : Room} {s : State} {mt : MethodId} {args : Array Value} {below : List Frame} {meth : Method} {c : Code} {H : Heap} {locs : List Loc} {cells slots : Nat} {Q : State → Prop} {E : zE} {D : va_G} {cA : Nat → ClassId} {H0 : Heap} {scr : Cell} {nL : Nat} {cc : ByteArray} {pc : Nat} {lc : Array Slot} {sc : List Value} {L L' : zY} {m m' : zM}
theorem z_keep (hK : zK E D cA H0 scr s) (hh : zhr E D cA H0 scr L m H) : ∀ a : Nat, a < H0.size → ¬ E.1 ≤ a → H[a]? = H0[a]? := fun a _ h2 => hh.2.2.2.2.2.1 a (by omega)
theorem zx_gets {k v : Nat} {r : List Value} {ci : Nat} (hx : p.tables.exec = Jvm.exec) (hb : c.code = cc) (hown : s.vm.findClass (zowns.getD ci "") = some mt.cls) (hK : zK E D cA H0 scr s) (hh : zhr E D cA H0 scr L m H) (hk : k < 10000) (hf : zlk zgst (zkey ci k) = some v) (hd : decode cc pc = .ok (.getstatic k, 3))
    (kk : ∀ w, zvr E (if v = 0 then .inl 1 else .inr (.inr (.inr (2, 0)))) w → W p l e R s mt args below meth c H locs cells slots Q (F0 mt (pc + 3) lc (w :: r))) : W p l e R s mt args below meth c H locs cells slots Q (F0 mt pc lc r) := by
  obtain ⟨pl, -, h2⟩ := zgchk_all _ (zlk_mem hf)
  have e1 : zkey ci k / 10000 = ci := by unfold zkey; omega
  have e2 : zkey ci k % 10000 = k := by unfold zkey; omega
  simp only [e1, e2] at h2
  obtain ⟨-, -, -, -, -, -, -, -, -, -, -, hz1, hz2⟩ := id hK
  by_cases hv : v = 0
  · rw [if_pos hv] at h2 kk
    obtain ⟨cf, kf, fi, f, a, cell, h1, h3, h4, h5, h6, h7, h8, h9⟩ := hz1.kept (z_keep hK hh)
    exact W.gets hx hb hown (hK.use pl h2 rfl) h1 h3 h4 h5 h6 (fun e => by rw [e] at h7; cases h7) h8 rfl hd (kk _ ⟨_, rfl, rfl⟩)
  · rw [if_neg hv] at h2 kk
    rcases hz2.kept (z_keep hK hh) with hz | ⟨t, hz⟩
    · obtain ⟨cf, kf, fi, f, a, cell, h1, h3, h4, h5, h6, h7, h8, h9⟩ := hz
      exact W.gets hx hb hown (hK.use pl h2 rfl) h1 h3 h4 h5 h6 (fun e => by rw [e] at h7; cases h7) h8 rfl hd (kk _ (Or.inl rfl))
    · obtain ⟨cf, kf, fi, f, a, cell, h1, h3, h4, h5, h6, h7, h8, h9⟩ := hz
      exact W.gets hx hb hown (hK.use pl h2 rfl) h1 h3 h4 h5 h6 (fun e => by rw [e] at h7; cases h7) h8 rfl hd (kk _ (Or.inr ⟨_, rfl⟩))
theorem zx_gstr {k t f kd j : Nat} {r : List Value} {ci : Nat} (hx : p.tables.exec = Jvm.exec) (hb : c.code = cc) (hown : s.vm.findClass (zowns.getD ci "") = some mt.cls) (hK : zK E D cA H0 scr s) (hh : zhr E D cA H0 scr L m H) (hk : k < 10000) (hf : zlk zfld (zkey ci k) = some (t, f, kd)) (hkd : kd = 5 ∨ kd = 6) (hj : j < 14) (hd : decode cc pc = .ok (.getfield k, 3))
    (kk : ∀ w, zvr E (if kd = 5 then .inr (.inr (.inr (1, j))) else .inl 0) w → W p l e R s mt args below meth c H locs cells slots Q (F0 mt (pc + 3) lc (w :: r))) : W p l e R s mt args below meth c H locs cells slots Q (F0 mt pc lc (.ref (E.2.2.1 j) :: r)) := by
  obtain ⟨pl, h2⟩ := zschk_all _ (zlk_mem hf) hkd
  have e1 : zkey ci k / 10000 = ci := by unfold zkey; omega
  have e2 : zkey ci k % 10000 = k := by unfold zkey; omega
  simp only [e1, e2] at h2
  obtain ⟨-, -, -, -, -, -, -, -, -, hs, -⟩ := id hK
  obtain ⟨h3, h4, h5, h6⟩ := zStr_at hs hj
  by_cases hv : kd = 5
  · rw [if_pos hv] at h2 kk
    obtain ⟨cf, q, fi, fd, cell, g1, g2, g3, g4, g5, g6⟩ := h5.kept (z_keep hK hh)
    exact W.getf hx hb hown (hK.use pl h2 rfl) g1 g2 g3 g4 g5 rfl rfl hd (kk _ ⟨hj, rfl⟩)
  · rw [if_neg hv] at h2 kk
    obtain ⟨cf, q, fi, fd, cell, g1, g2, g3, g4, g5, g6⟩ := h4.kept (z_keep hK hh)
    exact W.getf hx hb hown (hK.use pl h2 rfl) g1 g2 g3 g4 g5 rfl rfl hd (kk _ ⟨_, rfl, rfl⟩)
theorem zx_bald {j : Nat} {i : Int32} {r : List Value} (hx : p.tables.exec = Jvm.exec) (hb : c.code = cc) (hK : zK E D cA H0 scr s) (hh : zhr E D cA H0 scr L m H) (hj : j < 14) (h0 : 0 ≤ i.toInt) (h1 : i.toInt < zwlen j) (hd : decode cc pc = .ok (.baload, 1))
    (kk : ∀ w, zvr E (.inl ((zwords.getD j []).getD i.toInt.toNat 0)) w → W p l e R s mt args below meth c H locs cells slots Q (F0 mt (pc + 1) lc (w :: r))) : W p l e R s mt args below meth c H locs cells slots Q (F0 mt pc lc (.int i :: .ref (E.2.2.2 j) :: r)) := by
  obtain ⟨-, -, -, -, -, -, -, -, -, hs, -⟩ := id hK
  obtain ⟨-, -, -, h6⟩ := zStr_at hs hj
  obtain ⟨w1, w2, w3⟩ := zw_all j hj
  obtain ⟨cell, g1, g2, g3, g4, g5, g6, -⟩ := h6.kept (z_keep hK hh)
  rw [w1] at g4 g5 g6
  obtain ⟨v1, v2, v3⟩ := w3 i.toInt.toNat (by omega)
  exact W.bald hx hb g1 g2 g3 (fun q => z_in h0 h1 (q.imp id (fun z => Nat.le_trans g4 z))) (g6 i.toNatClampNeg (by rw [z_clamp]; omega)) rfl rfl hd (kk _ ⟨_, rfl, by rw [z_clamp, v1]; exact z_toInt32 (by omega)⟩)
theorem zx_slen {j : Nat} {r : List Value} (hx : p.tables.exec = Jvm.exec) (hb : c.code = cc) (hK : zK E D cA H0 scr s) (hh : zhr E D cA H0 scr L m H) (hj : j < 14) (hd : decode cc pc = .ok (.arraylength, 1))
    (kk : ∀ w, zvr E (.inl (zwlen j : Int)) w → W p l e R s mt args below meth c H locs cells slots Q (F0 mt (pc + 1) lc (w :: r))) : W p l e R s mt args below meth c H locs cells slots Q (F0 mt pc lc (.ref (E.2.2.2 j) :: r)) := by
  obtain ⟨-, -, -, -, -, -, -, -, -, hs, -⟩ := id hK
  obtain ⟨-, -, -, h6⟩ := zStr_at hs hj
  obtain ⟨w1, w2, w3⟩ := zw_all j hj
  obtain ⟨cell, g1, g2, g3, g4, g5, g6, -⟩ := h6.kept (z_keep hK hh)
  rw [w1] at g5
  exact W.alen (ty := .byte) hx hb g1 g2 g5 rfl rfl hd (kk _ ⟨_, rfl, z_ofN (by omega)⟩)
theorem zx_ldc {k : Nat} {v : Int} {r : List Value} {ci : Nat} (hx : p.tables.exec = Jvm.exec) (hb : c.code = cc) (hown : s.vm.findClass (zowns.getD ci "") = some mt.cls) (hK : zK E D cA H0 scr s) (hk : k < 10000) (hf : zlk zcst (zkey ci k) = some v) (hd : decode cc pc = .ok (.ldc k, 2))
    (kk : ∀ w, zvr E (.inl v) w → W p l e R s mt args below meth c H locs cells slots Q (F0 mt (pc + 2) lc (w :: r))) : W p l e R s mt args below meth c H locs cells slots Q (F0 mt pc lc r) := by
  obtain ⟨pl, -, h1, h2, h3⟩ := zkchk_all _ (zlk_mem hf)
  have e1 : zkey ci k / 10000 = ci := by unfold zkey; omega
  have e2 : zkey ci k % 10000 = k := by unfold zkey; omega
  simp only [e1, e2] at h3
  exact lv_ldc hx hb hown (hK.use pl h3 rfl) hd (kk _ ⟨_, rfl, z_toInt32 ⟨h1, h2⟩⟩)
theorem zx_ldcw {k : Nat} {v : Int} {r : List Value} {ci : Nat} (hx : p.tables.exec = Jvm.exec) (hb : c.code = cc) (hown : s.vm.findClass (zowns.getD ci "") = some mt.cls) (hK : zK E D cA H0 scr s) (hk : k < 10000) (hf : zlk zcst (zkey ci k) = some v) (hd : decode cc pc = .ok (.ldc_w k, 3))
    (kk : ∀ w, zvr E (.inl v) w → W p l e R s mt args below meth c H locs cells slots Q (F0 mt (pc + 3) lc (w :: r))) : W p l e R s mt args below meth c H locs cells slots Q (F0 mt pc lc r) := by
  obtain ⟨pl, -, h1, h2, h3⟩ := zkchk_all _ (zlk_mem hf)
  have e1 : zkey ci k / 10000 = ci := by unfold zkey; omega
  have e2 : zkey ci k % 10000 = k := by unfold zkey; omega
  simp only [e1, e2] at h3
  exact lv_ldcw hx hb hown (hK.use pl h3 rfl) hd (kk _ ⟨_, rfl, z_toInt32 ⟨h1, h2⟩⟩)
theorem zx_ldc2 {k : Nat} {v : Int} {r : List Value} {ci : Nat} (hx : p.tables.exec = Jvm.exec) (hb : c.code = cc) (hown : s.vm.findClass (zowns.getD ci "") = some mt.cls) (hK : zK E D cA H0 scr s) (hk : k < 10000) (hf : zlk zlng (zkey ci k) = some v) (hd : decode cc pc = .ok (.ldc2_w k, 3))
    (kk : ∀ w, zvr E (.inr (.inl v)) w → W p l e R s mt args below meth c H locs cells slots Q (F0 mt (pc + 3) lc (w :: r))) : W p l e R s mt args below meth c H locs cells slots Q (F0 mt pc lc r) := by
  obtain ⟨pl, -, h1, h2, h3⟩ := zlchk_all _ (zlk_mem hf)
  have e1 : zkey ci k / 10000 = ci := by unfold zkey; omega
  have e2 : zkey ci k % 10000 = k := by unfold zkey; omega
  simp only [e1, e2] at h3
  exact lv_ldc2 hx hb hown (hK.use pl h3 rfl) hd (kk _ ⟨_, rfl, z_toInt64 ⟨h1, h2⟩⟩)
theorem zx_ldcs {k j : Nat} {r : List Value} {ci : Nat} (hx : p.tables.exec = Jvm.exec) (hb : c.code = cc) (hown : s.vm.findClass (zowns.getD ci "") = some mt.cls) (hK : zK E D cA H0 scr s) (hk : k < 10000) (hf : zlk zstr (zkey ci k) = some j) (hd : decode cc pc = .ok (.ldc k, 2))
    (kk : ∀ w, zvr E (.inr (.inr (.inr (0, j)))) w → W p l e R s mt args below meth c H locs cells slots Q (F0 mt (pc + 2) lc (w :: r))) : W p l e R s mt args below meth c H locs cells slots Q (F0 mt pc lc r) := by
  obtain ⟨h1, tx, h3⟩ := zstr_all _ (zlk_mem hf)
  have e1 : zkey ci k / 10000 = ci := by unfold zkey; omega
  have e2 : zkey ci k % 10000 = k := by unfold zkey; omega
  simp only [e1, e2] at h3
  obtain ⟨-, -, -, -, -, -, -, -, -, -, hs, -⟩ := id hK
  exact va_ldcS hx hb hown (hs j _ h3) hd (kk _ ⟨h1, rfl⟩)
theorem z_fillcell {c : ClassId} {N : Nat} {x : Value} : Jvm.Free.Multi.innerC c N x = arrV c N (fun _ => x) := arrV_new c N x
theorem z_outer (c : ClassId) (N h0 : Nat) : ∀ i : Nat, Jvm.Free.Multi.outerC c N h0 i = arrV c N (fun j => if j < i then .ref (h0 + 1 + j) else .null)
  | 0 => by
    show ({ cls := c, slots := Array.replicate N .null, vm := .none } : Cell) = _
    rw [arrV_new]
    refine congrArg (arrV c N) (funext fun j => ?_)
    simp
  | i + 1 => by
    show (Jvm.Free.Multi.outerC c N h0 i).setSlot i (.ref (h0 + 1 + i)) = _
    rw [z_outer c N h0 i, arrV_store]
    refine congrArg (arrV c N) (funext fun j => ?_)
    by_cases e : j = i
    · subst e; simp [updV]
    · by_cases h : j < i
      · simp [updV, e, h, Nat.lt_succ_of_lt h]
      · simp [updV, e, h, show ¬ j < i + 1 by omega]
theorem zx_multi {k t po pa : Nat} {x y : Int32} {r : List Value} {ci : Nat} (hx : p.tables.exec = Jvm.exec) (hb : c.code = cc) (hown : s.vm.findClass (zowns.getD ci "") = some mt.cls) (hK : zK E D cA H0 scr s) (hh : zhr E D cA H0 scr L m H) (hg : L.2.1 = 0) (ht : t = 22 ∨ t = 23) {pl : Nat}
    (h1 : lw_tbl[pl]? = some (.classLink (zowns.getD ci "") k ("[" ++ (zaty t).toString))) (h2 : lw_tbl[po]? = some (.arrayOver (zaty t))) (h3 : lw_tbl[pa]? = some (.arrayClass (zaty (t - 2)))) (hg2 : zgw (.arrayOver (zaty t)) = true)
    (hx0 : 0 ≤ x.toInt) (hx1 : x.toInt < 1000) (hy0 : 0 ≤ y.toInt) (hy1 : y.toInt < 1000) (hcells : cells + (1 + x.toInt.toNat) ≤ R.cells) (hslots : slots + (x.toInt.toNat + x.toInt.toNat * y.toInt.toNat) ≤ R.slots) (hd : decode cc pc = .ok (.multianewarray k 2, 4))
    (kk : ∀ (H1 : Heap), zhr E D cA H0 scr (L.1 ++ ((t, x.toInt.toNat) :: List.replicate x.toInt.toNat (t - 2, y.toInt.toNat)), L.2) (zmna m L.1.length x.toInt.toNat) H1 → W p l e R s mt args below meth c H1 locs (cells + 1 + x.toInt.toNat) (slots + x.toInt.toNat + x.toInt.toNat * y.toInt.toNat) Q (F0 mt (pc + 4) lc (zad E L.1.length :: r))) : W p l e R s mt args below meth c H locs cells slots Q (F0 mt pc lc (.int y :: .int x :: r)) := by
  have hl2 := hh.1
  have hsz := hh.2.2.2.2.1
  have ea : zad E L.1.length = .ref H.size := by
    rw [zad_two hl2, hsz, hg]; rfl
  have hta : zaty t = .array (zaty (t - 2)) := by rcases ht with rfl | rfl <;> rfl
  rw [hta] at h1 h2 hg2
  intro T hT X
  have hcb : componentBytes (zaty (t - 2)) ≤ 8 := by rcases ht with rfl | rfl <;> decide
  obtain ⟨vm₁, c1, comp, -, fA, fC, hO, -, X', step⟩ := X.multianewarray2F hx hown (hK.use pl h1 rfl) (hK.use po h2 hg2) (hK.use pa h3 rfl) (g := F0 mt pc lc (.int y :: .int x :: r)) rfl (by rw [hb]; exact hd) rfl
    (by rw [← z_lt]; show ¬ x.toInt < 0; omega) (by rw [← z_lt]; show ¬ y.toInt < 0; omega) (by rw [z_clamp]; omega) (by rw [z_clamp]; have := Nat.mul_le_mul (show y.toInt.toNat ≤ 1000 by omega) hcb; omega) (by rw [z_clamp]; omega) (by rcases ht with rfl | rfl <;> rfl) (by rcases ht with rfl | rfl <;> rfl) hcells hslots
  have hc1 : c1 = cA t := by
    have := (hK.2.2.1 t (by omega) (by omega)).1
    rw [hta] at this
    exact Option.some.inj (fA.symm.trans this)
  have hc2 : comp = cA (t - 2) := Option.some.inj (fC.symm.trans (hK.2.2.1 (t - 2) (by omega) (by omega)).1)
  subst hc1; subst hc2
  rw [z_clamp, z_clamp] at X' step
  generalize hF : Jvm.Free.Multi.fill (T.setVm vm₁) (cA t) (cA (t - 2)) x.toInt.toNat y.toInt.toNat (defaultValue (zaty (t - 2))) x.toInt.toNat = F at X' step
  have hTh : (T.setVm vm₁).heap = H := hT
  obtain ⟨f1, f2, -, -⟩ := Jvm.Free.Multi.fill_facts (T.setVm vm₁) (cA t) (cA (t - 2)) x.toInt.toNat y.toInt.toNat (defaultValue (zaty (t - 2))) x.toInt.toNat
  rw [hF, hTh] at f1 f2
  have hold : ∀ q : Nat, q < H.size → F.heap[q]? = H[q]? := fun q hq => by
    have := Jvm.Free.Multi.fill_old (T.setVm vm₁) (cA t) (cA (t - 2)) x.toInt.toNat y.toInt.toNat (defaultValue (zaty (t - 2))) (a := q) (by rw [hTh]; exact hq) x.toInt.toNat
    rw [hF, hTh] at this
    exact this
  have hrow : ∀ j : Nat, j < x.toInt.toNat → F.heap[H.size + 1 + j]? = some (arrV (cA (t - 2)) y.toInt.toNat (fun _ => defaultValue (zaty (t - 2)))) := fun j hj => by
    have := Jvm.Free.Multi.fill_inner (T.setVm vm₁) (cA t) (cA (t - 2)) x.toInt.toNat y.toInt.toNat (defaultValue (zaty (t - 2))) x.toInt.toNat j hj
    rw [hF, hTh, z_fillcell] at this
    exact this
  rw [z_outer] at f2
  have hB : E.1 + (L.1.length - 2) = H.size := by rw [hsz, hg]; rfl
  have key := kk F.heap (zhr_grow hh hg (by rw [f1, List.length_cons, List.length_replicate]; omega) hold (fun a ha => by funext j; unfold zmna; rw [if_neg (by omega), if_neg (by omega)]) (fun a t' N' ha hl => ?_))
  · obtain ⟨tt, a1, b1⟩ := key F rfl X'
    refine ⟨tt, step tt ?_, b1⟩
    rw [ea] at a1
    have e9 : T.heap.size = H.size := by rw [hT]
    rw [e9]
    exact a1
  · rw [List.getElem?_append_right ha] at hl
    by_cases ea0 : a = L.1.length
    · subst ea0
      simp only [Nat.sub_self, List.getElem?_cons_zero, Option.some.injEq, Prod.mk.injEq] at hl
      obtain ⟨rfl, rfl⟩ := hl
      refine ⟨fun j hj => ?_, Or.inr ⟨by omega, by omega, by omega, ?_⟩⟩
      · unfold zmna
        rw [if_pos rfl, if_pos hj]
        have : zkd t j = 3 := by unfold zkd; rw [if_neg (by omega), if_neg (by omega), if_neg (by omega)]
        rw [this]
        refine ⟨by omega, ?_⟩
        show _ < (L.1 ++ (t, x.toInt.toNat) :: List.replicate x.toInt.toNat (t - 2, y.toInt.toNat)).length
        rw [List.length_append, List.length_cons, List.length_replicate]
        omega
      · rw [hB, f2]
        refine congrArg some ?_
        have h3k : zkd t 0 = 3 := by unfold zkd; rw [if_neg (by omega), if_neg (by omega), if_neg (by omega)]
        unfold arrV
        congr 2
        funext j
        have hj := j.isLt
        show (if j.val < x.toInt.toNat then Value.ref (H.size + 1 + j.val) else .null) = zcv E (zkd t 0) (zmna m L.1.length x.toInt.toNat L.1.length j.val)
        rw [if_pos hj, h3k]
        unfold zmna
        rw [if_pos rfl, if_pos hj]
        show _ = zad E (((L.1.length + 1 + j.val : Nat) : Int)).toNat
        have e5 : E.1 + (L.1.length + 1 + j.val - 2) = H.size + 1 + j.val := by
          have h5 : 2 ≤ L.1.length := hl2
          omega
        rw [Int.toNat_natCast, zad_two (by omega), e5]
    · obtain ⟨i, hi⟩ : ∃ i, a = L.1.length + 1 + i := ⟨a - L.1.length - 1, by omega⟩
      subst hi
      rw [show L.1.length + 1 + i - L.1.length = i + 1 by omega, List.getElem?_cons_succ, List.getElem?_replicate] at hl
      split at hl
      · rename_i hi
        cases hl
        have hm0 : ∀ j, zmna m L.1.length x.toInt.toNat (L.1.length + 1 + i) j = 0 := fun j => by
          unfold zmna
          rw [if_neg (by omega), if_pos (by omega)]
        refine ⟨fun j _ => ?_, Or.inr ⟨by omega, by omega, by omega, ?_⟩⟩
        · rw [hm0]
          exact zok_0 (by show 0 < (L.1 ++ _).length; rw [List.length_append, List.length_cons]; omega)
        · rw [show E.1 + (L.1.length + 1 + i - 2) = H.size + 1 + i by omega, hrow i hi]
          congr 2
          funext j
          rw [hm0]
          rcases ht with rfl | rfl <;> rfl
      · cases hl
end ZF
