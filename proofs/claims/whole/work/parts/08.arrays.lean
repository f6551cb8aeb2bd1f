section ZD
variable {p : Program} {l : Launch} {e : Env} {R : Room} {s : State} {mt : MethodId} {args : Array Value} {below : List Frame} {meth : Method} {c : Code} {H : Heap} {locs : List Loc} {cells slots : Nat} {Q : State → Prop} {E : zE} {D : va_G} {cA : Nat → ClassId} {H0 : Heap} {scr : Cell} {nL : Nat} {cc : ByteArray} {pc : Nat} {lc : Array Slot} {sc : List Value} {L L' : zY} {m m' : zM}
theorem z_clamp {i : Int32} : i.toNatClampNeg = i.toInt.toNat := rfl
theorem z_in {i : Int32} {N : Nat} (h0 : 0 ≤ i.toInt) (h1 : i.toInt < N) : ¬ (i < 0 ∨ N ≤ i.toNatClampNeg) := by
  rw [z_clamp, ← z_lt]
  show ¬ (i.toInt < 0 ∨ _)
  omega
theorem z_arr (hh : zhr E D cA H0 scr L m H) {a : Nat} (h20 : 20 ≤ zt L a) (h2 : 2 ≤ a) : zt L a ≤ 23 ∧ zn L a < 2147483648 ∧ (∀ k, k < zn L a → zok L.1.length (zkd (zt L a) k) (m a k)) ∧ H[E.1 + (a - 2)]? = some (arrV (cA (zt L a)) (zn L a) (fun j => zcv E (zkd (zt L a) 0) (m a j))) := by
  obtain ⟨c1, c2⟩ := zhr_cell hh (by omega) h2
  rcases c2 with ⟨d1, -⟩ | ⟨d1, d2, d3, d4⟩
  · omega
  · exact ⟨d2, d3, c1, d4⟩
theorem z_script (hK : zK E D cA H0 scr s) (hh : zhr E D cA H0 scr L m H) : H[E.2.1]? = some scr := by
  rw [hh.2.2.2.2.2.1 E.2.1 hK.2.2.2.2.2.2.1]
  exact hK.2.2.2.2.2.1
theorem z_one (hh : zhr E D cA H0 scr L m H) : zn L 1 = scr.slots.size := by
  unfold zn
  rw [List.getD_eq_getElem?_getD, hh.2.2.1]
  rfl
theorem z_addr (hh : zhr E D cA H0 scr L m H) {a : Nat} (h : zt L a ≠ 0) : a = 1 ∨ 2 ≤ a := by
  rcases Nat.lt_or_ge a 2 with q | q
  · rcases (show a = 0 ∨ a = 1 by omega) with rfl | rfl
    · have hl := z_layat h
      rw [hh.2.1] at hl
      exact absurd (congrArg Prod.fst (Option.some.inj hl)).symm h
    · exact Or.inl rfl
  · exact Or.inr q
theorem zx_iald {a : Nat} {i : Int32} {r : List Value} (hx : p.tables.exec = Jvm.exec) (hb : c.code = cc) (hK : zK E D cA H0 scr s) (hh : zhr E D cA H0 scr L m H) (ht : zt L a = 20) (h0 : 0 ≤ i.toInt) (h1 : i.toInt < zn L a) (hd : decode cc pc = .ok (.iaload, 1))
    (kk : ∀ w, zvr E (.inl (m a i.toInt.toNat)) w → W p l e R s mt args below meth c H locs cells slots Q (F0 mt (pc + 1) lc (w :: r))) : W p l e R s mt args below meth c H locs cells slots Q (F0 mt pc lc (.int i :: zad E a :: r)) := by
  rcases z_addr hh (a := a) (by omega) with rfl | h2
  · rw [z_one hh] at h1
    obtain ⟨g1, g2⟩ := hh.2.2.2.1 i.toInt.toNat (by omega)
    exact W.iald hx hb (z_script hK hh) hK.2.2.2.1 hK.2.2.2.2.1 (z_in h0 h1) (v := .int (Int32.ofInt (m 1 i.toInt.toNat))) g1 rfl rfl hd (kk _ ⟨_, rfl, z_toInt32 g2⟩)
  · obtain ⟨-, d3, c1, d4⟩ := z_arr hh (by omega) h2
    rw [ht] at c1 d4
    rw [zad_two h2]
    refine W.iald (v := zcv E 0 (m a i.toInt.toNat)) hx hb d4 ((hK.2.2.1 20 (by omega) (by omega)).2 _ _) (fun q => by cases q) (by rw [arrV_size]; exact z_in h0 h1) ?_ rfl rfl hd (kk _ (zcv_vr (c1 i.toInt.toNat (by omega))))
    rw [arrV_read _ _ (show i.toNatClampNeg < zn L a by rw [z_clamp]; omega)]
    rfl
theorem zx_lald {a : Nat} {i : Int32} {r : List Value} (hx : p.tables.exec = Jvm.exec) (hb : c.code = cc) (hK : zK E D cA H0 scr s) (hh : zhr E D cA H0 scr L m H) (ht : zt L a = 21) (h0 : 0 ≤ i.toInt) (h1 : i.toInt < zn L a) (hd : decode cc pc = .ok (.laload, 1))
    (kk : ∀ w, zvr E (.inr (.inl (m a i.toInt.toNat))) w → W p l e R s mt args below meth c H locs cells slots Q (F0 mt (pc + 1) lc (w :: r))) : W p l e R s mt args below meth c H locs cells slots Q (F0 mt pc lc (.int i :: zad E a :: r)) := by
  have h2 : 2 ≤ a := zhr_two hh (by omega) (by omega)
  obtain ⟨-, d3, c1, d4⟩ := z_arr hh (by omega) h2
  rw [ht] at c1 d4
  rw [zad_two h2]
  refine W.lald (v := zcv E 2 (m a i.toInt.toNat)) hx hb d4 ((hK.2.2.1 21 (by omega) (by omega)).2 _ _) (fun q => by cases q) (by rw [arrV_size]; exact z_in h0 h1) ?_ rfl rfl hd (kk _ (zcv_vr (c1 i.toInt.toNat (by omega))))
  rw [arrV_read _ _ (show i.toNatClampNeg < zn L a by rw [z_clamp]; omega)]
  rfl
theorem zx_aald {a : Nat} {i : Int32} {r : List Value} (hx : p.tables.exec = Jvm.exec) (hb : c.code = cc) (hK : zK E D cA H0 scr s) (hh : zhr E D cA H0 scr L m H) (ht : zt L a = 22 ∨ zt L a = 23) (h0 : 0 ≤ i.toInt) (h1 : i.toInt < zn L a) (hd : decode cc pc = .ok (.aaload, 1))
    (kk : ∀ w, zvr E (.inr (.inr (.inl (m a i.toInt.toNat).toNat))) w → W p l e R s mt args below meth c H locs cells slots Q (F0 mt (pc + 1) lc (w :: r))) : W p l e R s mt args below meth c H locs cells slots Q (F0 mt pc lc (.int i :: zad E a :: r)) := by
  have h2 : 2 ≤ a := zhr_two hh (by omega) (by omega)
  obtain ⟨d2, d3, c1, d4⟩ := z_arr hh (by omega) h2
  rw [zad_two h2]
  have hk3 : ∀ k, zkd (zt L a) k = 3 := fun k => by
    unfold zkd; rw [if_neg (by omega), if_neg (by omega), if_neg (by omega)]
  have hr : (zaty (zt L a)).isReference = true := by
    rcases ht with h | h <;> rw [h] <;> rfl
  refine W.aald (v := zcv E 3 (m a i.toInt.toNat)) hx hb d4 ((hK.2.2.1 (zt L a) (by omega) (by omega)).2 _ _) hr (fun q => by cases q) (by rw [arrV_size]; exact z_in h0 h1) ?_ rfl rfl hd (kk _ rfl)
  rw [arrV_read _ _ (show i.toNatClampNeg < zn L a by rw [z_clamp]; omega), hk3]
  rfl
theorem z_setarr {t N a k : Nat} {x : Int} {H1 : Heap} (hl : zkd t k = zkd t 0) (he : H1[E.1 + (a - 2)]? = some ((arrV (cA t) N (fun j => zcv E (zkd t 0) (m a j))).setSlot k (zcv E (zkd t 0) x))) :
    H1[E.1 + (a - 2)]? = some (arrV (cA t) N (fun j => zcv E (zkd t 0) (zup m a k x a j))) := by
  rw [he, arrV_store]
  congr 2
  funext j
  by_cases ej : j = k
  · subst ej; simp [updV, zup]
  · simp [updV, zup, ej]
theorem z_arrkd {t : Nat} (h : 20 ≤ t) (k : Nat) : zkd t k = zkd t 0 := by
  unfold zkd; simp only [show ¬ t < 20 by omega, if_false]
theorem zx_arrput {a k : Nat} {x : Int} {H1 : Heap} (hh : zhr E D cA H0 scr L m H) (h20 : 20 ≤ zt L a) (h2 : 2 ≤ a) (hk : k < zn L a) (hv : zok L.1.length (zkd (zt L a) 0) x) (hz : H1.size = H.size) (ho : ∀ q, q ≠ E.1 + (a - 2) → H1[q]? = H[q]?)
    (he : H1[E.1 + (a - 2)]? = some ((arrV (cA (zt L a)) (zn L a) (fun j => zcv E (zkd (zt L a) 0) (m a j))).setSlot k (zcv E (zkd (zt L a) 0) x))) : zhr E D cA H0 scr L (zup m a k x) H1 := by
  obtain ⟨d2, d3, c1, d4⟩ := z_arr hh h20 h2
  refine zhr_put hh h2 hz ho (fun t N hl => ?_)
  rw [z_layat (L := L) (a := a) (by omega)] at hl
  cases hl
  refine ⟨fun j hj => ?_, Or.inr ⟨h20, d2, d3, z_setarr (z_arrkd h20 k) he⟩⟩
  by_cases ej : j = k
  · subst ej
    rw [show zup m a j x a j = x by unfold zup; rw [if_pos ⟨rfl, rfl⟩], z_arrkd h20]
    exact hv
  · rw [show zup m a k x a j = m a j by unfold zup; rw [if_neg (fun q => ej q.2)]]
    exact c1 j hj
theorem zx_iast {a : Nat} {i j : Int32} {r : List Value} (hx : p.tables.exec = Jvm.exec) (hb : c.code = cc) (hK : zK E D cA H0 scr s) (hh : zhr E D cA H0 scr L m H) (ho : ∀ q ∈ locs, E.1 ≤ q.base) (h2 : 2 ≤ a) (ht : zt L a = 20) (h0 : 0 ≤ i.toInt) (h1 : i.toInt < zn L a) (hd : decode cc pc = .ok (.iastore, 1))
    (kk : ∀ (H1 : Heap) (locs1 : List Loc), zhr E D cA H0 scr L (zup m a i.toInt.toNat j.toInt) H1 → (∀ q ∈ locs1, E.1 ≤ q.base) → W p l e R s mt args below meth c H1 locs1 cells slots Q (F0 mt (pc + 1) lc r)) : W p l e R s mt args below meth c H locs cells slots Q (F0 mt pc lc (.int j :: .int i :: zad E a :: r)) := by
  obtain ⟨-, d3, c1, d4⟩ := z_arr hh (by omega) h2
  rw [zad_two h2]
  refine W.iast hx hb d4 (by rw [ht]; exact (hK.2.2.1 20 (by omega) (by omega)).2 _ _) (fun q => by cases q) (by rw [arrV_size]; exact z_in h0 h1) rfl rfl hd fun H1 g1 g2 g3 => ?_
  refine kk H1 _ (zx_arrput hh (by omega) h2 (by omega) (by rw [ht]; exact z_rng32 j) g2 g3 ?_) (fun q hq => ?_)
  · rw [g1, ht]
    show some (Cell.setSlot _ _ (.int j)) = some (Cell.setSlot _ _ (.int (Int32.ofInt j.toInt)))
    rw [z_ofInt32]
    rfl
  · rcases List.mem_append.mp hq with h | h
    · exact ho q h
    · rw [List.mem_singleton.mp h]; exact Nat.le_add_right _ _
theorem zx_last {a : Nat} {i : Int32} {j : Int64} {r : List Value} (hx : p.tables.exec = Jvm.exec) (hb : c.code = cc) (hK : zK E D cA H0 scr s) (hh : zhr E D cA H0 scr L m H) (ho : ∀ q ∈ locs, E.1 ≤ q.base) (ht : zt L a = 21) (h0 : 0 ≤ i.toInt) (h1 : i.toInt < zn L a) (hd : decode cc pc = .ok (.lastore, 1))
    (kk : ∀ (H1 : Heap) (locs1 : List Loc), zhr E D cA H0 scr L (zup m a i.toInt.toNat j.toInt) H1 → (∀ q ∈ locs1, E.1 ≤ q.base) → W p l e R s mt args below meth c H1 locs1 cells slots Q (F0 mt (pc + 1) lc r)) : W p l e R s mt args below meth c H locs cells slots Q (F0 mt pc lc (.long j :: .int i :: zad E a :: r)) := by
  have h2 : 2 ≤ a := zhr_two hh (by omega) (by omega)
  obtain ⟨-, d3, c1, d4⟩ := z_arr hh (by omega) h2
  rw [zad_two h2]
  refine W.last hx hb d4 (by rw [ht]; exact (hK.2.2.1 21 (by omega) (by omega)).2 _ _) (fun q => by cases q) (by rw [arrV_size]; exact z_in h0 h1) rfl rfl hd fun H1 g1 g2 g3 => ?_
  refine kk H1 _ (zx_arrput hh (by omega) h2 (by omega) (by rw [ht]; exact z_rng64 j) g2 g3 ?_) (fun q hq => ?_)
  · rw [g1, ht]
    show some (Cell.setSlot _ _ (.long j)) = some (Cell.setSlot _ _ (.long (Int64.ofInt j.toInt)))
    rw [z_ofInt64]
    rfl
  · rcases List.mem_append.mp hq with h | h
    · exact ho q h
    · rw [List.mem_singleton.mp h]; exact Nat.le_add_right _ _
theorem z_ofN {N : Nat} (h : N < 2147483648) : (N.toInt32).toInt = (N : Int) := nI_toInt (by omega)
theorem zx_alen {a : Nat} {r : List Value} (hx : p.tables.exec = Jvm.exec) (hb : c.code = cc) (hK : zK E D cA H0 scr s) (hh : zhr E D cA H0 scr L m H) (ht : 20 ≤ zt L a ∧ zt L a ≤ 23) (hd : decode cc pc = .ok (.arraylength, 1))
    (kk : ∀ w, zvr E (.inl (zn L a : Int)) w → W p l e R s mt args below meth c H locs cells slots Q (F0 mt (pc + 1) lc (w :: r))) : W p l e R s mt args below meth c H locs cells slots Q (F0 mt pc lc (zad E a :: r)) := by
  rcases z_addr hh (a := a) (by omega) with rfl | h2
  · refine W.alen (ty := .int) hx hb (z_script hK hh) hK.2.2.2.1 rfl rfl rfl hd (kk _ ⟨_, rfl, ?_⟩)
    rw [z_one hh]
    exact z_ofN hK.2.2.2.2.2.2.2.2.1
  · obtain ⟨-, d3, c1, d4⟩ := z_arr hh (by omega) h2
    rw [zad_two h2]
    refine W.alen (ty := zaty (zt L a)) hx hb d4 ((hK.2.2.1 (zt L a) ht.1 ht.2).2 _ _) rfl rfl rfl hd (kk _ ⟨_, rfl, ?_⟩)
    rw [arrV_size]
    exact z_ofN d3
/-- a cell comes -/
theorem zok_mono {n n' kd : Nat} {x : Int} (hn : n ≤ n') (h : zok n kd x) : zok n' kd x := by
  match kd, h with
  | 0, h => exact h
  | 1, h => exact h
  | 2, h => exact h
  | k + 3, h => exact ⟨h.1, Nat.lt_of_lt_of_le h.2 hn⟩
/-- cells come: the layout grows by X -/
theorem zhr_grow {H1 : Heap} {X : List (Nat × Nat)} {m1 : zM} (hh : zhr E D cA H0 scr L m H) (hg : L.2.1 = 0) (hz : H1.size = H.size + X.length) (ho : ∀ q, q < H.size → H1[q]? = H[q]?) (hm : ∀ a, a < L.1.length → m1 a = m a)
    (hc : ∀ a t N, L.1.length ≤ a → (L.1 ++ X)[a]? = some (t, N) → zcell E D cA (L.1 ++ X, L.2) m1 a t N H1) : zhr E D cA H0 scr (L.1 ++ X, L.2) m1 H1 := by
  obtain ⟨g1, g2, g3, g4, g5, g6, g7⟩ := hh
  have hlen : L.1.length ≤ (L.1 ++ X).length := by rw [List.length_append]; omega
  refine ⟨by show 2 ≤ (L.1 ++ X).length; omega, ?_, ?_, fun j hj => ?_, ?_, fun q hq => ?_, fun b t N hb hl => ?_⟩
  · show (L.1 ++ X)[0]? = _
    rw [List.getElem?_append_left (by omega)]; exact g2
  · show (L.1 ++ X)[1]? = _
    rw [List.getElem?_append_left (by omega)]; exact g3
  · rw [hm 1 (by omega)]
    exact ⟨(g4 j hj).1, zok_mono hlen (g4 j hj).2⟩
  · show H1.size = E.1 + ((L.1 ++ X).length - 2) + L.2.1
    rw [hz, g5, List.length_append]; omega
  · rw [ho q (by omega)]; exact g6 q hq
  · by_cases hlt : b < L.1.length
    · have hl2 : L.1[b]? = some (t, N) := by
        have : (L.1 ++ X)[b]? = some (t, N) := hl
        rw [List.getElem?_append_left hlt] at this
        exact this
      obtain ⟨c1, c2⟩ := g7 b t N hb hl2
      have hq : H1[E.1 + (b - 2)]? = H[E.1 + (b - 2)]? := ho _ (by omega)
      refine ⟨fun j hj => by rw [hm b hlt]; exact zok_mono hlen (c1 j hj), ?_⟩
      rcases c2 with ⟨d1, d2, d3, d4, d5⟩ | ⟨d1, d2, d3, d4⟩
      · exact Or.inl ⟨d1, d2, d3, d4, (d5.kept hq).to (fun j _ => by rw [hm b hlt])⟩
      · exact Or.inr ⟨d1, d2, d3, by rw [hq, d4, hm b hlt]⟩
    · exact hc b t N (by omega) hl
theorem z_last {X : List (Nat × Nat)} {q : Nat × Nat} {a t N : Nat} (ha : X.length ≤ a) (h : (X ++ [q])[a]? = some (t, N)) : a = X.length ∧ q = (t, N) := by
  rw [List.getElem?_append_right ha] at h
  have h1 : a - X.length < 1 := (List.getElem?_eq_some_iff.mp h).1
  have e : a = X.length := by omega
  subst e
  simp at h
  exact ⟨rfl, h⟩
theorem zclr_new {n a j : Nat} : zclr m a (n + 1) a j = 0 := by
  unfold zclr; rw [if_pos (by omega)]
theorem zclr_old {n a b : Nat} (h : b < a) : zclr m a n b = m b := by
  funext j
  unfold zclr; rw [if_neg (by omega)]
theorem z_default {ty : FieldType} (h : ztyk ty ≤ 3) : defaultValue ty = zcv E (ztyk ty) 0 := by
  match ty, h with
  | .int, _ => rfl
  | .boolean, _ => rfl
  | .long, _ => rfl
  | .object n, _ => rfl
  | .array n, _ => rfl
  | .byte, h => exact absurd h (by decide)
  | .char, h => exact absurd h (by decide)
  | .short, h => exact absurd h (by decide)
  | .float, h => exact absurd h (by decide)
  | .double, h => exact absurd h (by decide)
theorem zok_0 {n kd : Nat} (hn : 0 < n) : zok n kd 0 := by
  match kd with
  | 0 => exact ⟨by decide, by decide⟩
  | 1 => exact Or.inl rfl
  | 2 => exact ⟨by decide, by decide⟩
  | k + 3 => exact ⟨by decide, hn⟩
theorem zx_new {t N k pl pi pj : Nat} {r : List Value} {own : String} (hx : p.tables.exec = Jvm.exec) (hb : c.code = cc) (hown : s.vm.findClass own = some mt.cls) (hK : zK E D cA H0 scr s) (hh : zhr E D cA H0 scr L m H) (hg : L.2.1 = 0) (ht1 : 1 ≤ t) (ht : t ≤ 11) (hN : N = (zcT (t - 1)).2.2)
    (h1 : lw_tbl[pl]? = some (.classLink own k (zcT (t - 1)).1)) (h2 : lw_tbl[pi]? = some (.instantiable (zcT (t - 1)).1 N)) (h3 : lw_tbl[pj]? = some (.initialized (zcT (t - 1)).1)) (hcells : cells + 1 ≤ R.cells) (hslots : slots + N ≤ R.slots) (hd : decode cc pc = .ok (.new k, 3))
    (kk : ∀ (H1 : Heap), zhr E D cA H0 scr (znu L t N) (zclr m L.1.length 1) H1 → W p l e R s mt args below meth c H1 locs (cells + 1) (slots + N) Q (F0 mt (pc + 3) lc (zad E L.1.length :: r))) : W p l e R s mt args below meth c H locs cells slots Q (F0 mt pc lc r) := by
  have hKn := hK.1.1 (t - 1) _ (zcT_get (by omega))
  have hl2 := hh.1
  have hsz := hh.2.2.2.2.1
  refine W.newcK hx hb hown (hK.use pl h1 rfl) (hK.use pi h2 rfl) (hK.use pj h3 rfl) rfl hd hcells hslots hKn.2.1 rfl fun H1 kC hkC e1 z1 o1 => ?_
  have ea : zad E L.1.length = .ref H.size := by
    rw [zad_two hl2, hsz, hg]; rfl
  have := kk H1 (zhr_grow (X := [(t, N)]) hh hg z1 o1 (fun a ha => zclr_old ha) (fun a t' N' ha hl => ?_))
  · rw [ea] at this
    exact this
  · obtain ⟨rfl, hq⟩ := z_last ha hl
    cases hq
    refine ⟨fun j _ => ?_, Or.inl ⟨by omega, ht1, ht, ?_, ?_⟩⟩
    · rw [zclr_new]
      exact zok_0 (by show 0 < (L.1 ++ [(t, N)]).length; rw [List.length_append]; omega)
    · rw [hN]; exact ((zcl_kd (t - 1) (by omega)).1).symm
    · have hB : E.1 + (L.1.length - 2) = H.size := by rw [hsz, hg]; rfl
      rw [hB, hN]
      refine (u_born (ztyf (t - 1)) (zK_hts (args := args) hK (ci := t - 1) (by omega)) (fun _ h => h) hKn hkC e1 (zcl_ty (t - 1) (by omega))).to (fun j hj => ?_)
      have hkd := (zcl_kd (t - 1) (by omega)).2 j hj
      rw [zclr_new, z_default (E := E) hkd.2]
      congr 1
      unfold zkd
      rw [if_pos (by omega)]
      exact hkd.1.symm
theorem zx_newa {x : Int32} {t : Nat} {ty : ArrayType} {r : List Value} (hx : p.tables.exec = Jvm.exec) (hb : c.code = cc) (hK : zK E D cA H0 scr s) (hh : zhr E D cA H0 scr L m H) (hg : L.2.1 = 0) (ht : t = 20 ∨ t = 21) (hty : newarray.typeOf ty = zaty t) (harr : (Cond.arrayClass (zaty t)).before args s = true) (h0 : 0 ≤ x.toInt) (h1 : x.toInt < 100000)
    (hcells : cells + 1 ≤ R.cells) (hslots : slots + x.toInt.toNat ≤ R.slots) (hd : decode cc pc = .ok (.newarray ty, 2))
    (kk : ∀ (H1 : Heap), zhr E D cA H0 scr (znu L t x.toInt.toNat) (zclr m L.1.length 1) H1 → W p l e R s mt args below meth c H1 locs (cells + 1) (slots + x.toInt.toNat) Q (F0 mt (pc + 2) lc (zad E L.1.length :: r))) : W p l e R s mt args below meth c H locs cells slots Q (F0 mt pc lc (.int x :: r)) := by
  have hl2 := hh.1
  have hsz := hh.2.2.2.2.1
  have ea : zad E L.1.length = .ref H.size := by
    rw [zad_two hl2, hsz, hg]; rfl
  have hcb : componentBytes (newarray.typeOf ty) ≤ 8 := by
    rw [hty]; rcases ht with h | h <;> rw [h] <;> decide
  refine va_newaK hx hb (by rw [hty]; exact harr) rfl hd rfl (by rw [← z_lt]; show ¬ x.toInt < 0; omega) z_clamp ?_ hcells hslots rfl fun H1 cA1 e1 z1 o1 hAr hNm => ?_
  · have := Nat.mul_le_mul (show x.toInt.toNat ≤ 100000 by omega) hcb
    omega
  rw [hty] at e1 hNm
  have hcA : cA1 = cA t := Option.some.inj (hNm.symm.trans (hK.2.2.1 t (by omega) (by omega)).1)
  subst hcA
  have := kk H1 (zhr_grow (X := [(t, x.toInt.toNat)]) hh hg z1 o1 (fun a ha => zclr_old ha) (fun a t' N' ha hl => ?_))
  · rw [ea] at this
    exact this
  · obtain ⟨rfl, hq⟩ := z_last ha hl
    cases hq
    have hB : E.1 + (L.1.length - 2) = H.size := by rw [hsz, hg]; rfl
    refine ⟨fun j _ => ?_, Or.inr ⟨by omega, by omega, by omega, ?_⟩⟩
    · rw [zclr_new]
      exact zok_0 (by show 0 < (L.1 ++ [(t, x.toInt.toNat)]).length; rw [List.length_append]; omega)
    · rw [hB, e1]
      congr 2
      funext j
      rw [zclr_new]
      rcases ht with h | h <;> subst h <;> rfl
end ZD
