section ZC
variable {p : Program} {l : Launch} {e : Env} {R : Room} {s : State} {mt : MethodId} {args : Array Value} {below : List Frame} {meth : Method} {c : Code} {H : Heap} {locs : List Loc} {cells slots : Nat} {Q : State → Prop} {E : zE} {D : va_G} {cA : Nat → ClassId} {H0 : Heap} {scr : Cell} {nL : Nat} {cc : ByteArray} {pc : Nat} {lc : Array Slot} {sc : List Value} {L L' : zY} {m m' : zM}
theorem z_layat {a : Nat} (h : zt L a ≠ 0) : L.1[a]? = some (zt L a, zn L a) := by
  unfold zt zn at *
  rw [List.getD_eq_getElem?_getD] at *
  cases hq : L.1[a]? with
  | none => rw [hq] at h; exact absurd rfl h
  | some q => rfl
theorem zhr_two (hh : zhr E D cA H0 scr L m H) {a : Nat} (h0 : zt L a ≠ 0) (h20 : zt L a ≠ 20) : 2 ≤ a := by
  obtain ⟨h1, h2, h3, -⟩ := hh
  have hl := z_layat h0
  rcases Nat.lt_or_ge a 2 with q | q
  · rcases (show a = 0 ∨ a = 1 by omega) with rfl | rfl
    · rw [h2] at hl; exact absurd (congrArg Prod.fst (Option.some.inj hl)).symm h0
    · rw [h3] at hl; exact absurd (congrArg Prod.fst (Option.some.inj hl)).symm h20
  · exact q
theorem zhr_cell (hh : zhr E D cA H0 scr L m H) {a : Nat} (h0 : zt L a ≠ 0) (h2 : 2 ≤ a) : zcell E D cA L m a (zt L a) (zn L a) H := hh.2.2.2.2.2.2 a _ _ h2 (z_layat h0)
theorem zad_two {a : Nat} (h : 2 ≤ a) : zad E a = .ref (E.1 + (a - 2)) := by
  unfold zad
  rw [if_neg (by omega), if_neg (by omega)]
def zty (kd : Nat) (x : Int) : zV := match kd with
  | 0 => .inl x
  | 1 => .inl x
  | 2 => .inr (.inl x)
  | _ => .inr (.inr (.inl x.toNat))
theorem zcv_vr {n kd : Nat} {x : Int} (h : zok n kd x) : zvr E (zty kd x) (zcv E kd x) := by
  match kd, h with
  | 0, h => exact ⟨_, rfl, z_toInt32 h⟩
  | 1, h => exact ⟨_, rfl, z_toInt32 (by rcases h with rfl | rfl <;> decide)⟩
  | 2, h => exact ⟨_, rfl, z_toInt64 h⟩
  | k + 3, h => exact rfl
/-- a slot of a cell is written -/
theorem zhr_put {H1 : Heap} (hh : zhr E D cA H0 scr L m H) {a k : Nat} {x : Int} (h2 : 2 ≤ a) (hz : H1.size = H.size) (ho : ∀ q, q ≠ E.1 + (a - 2) → H1[q]? = H[q]?)
    (hc : ∀ t N, L.1[a]? = some (t, N) → zcell E D cA L (zup m a k x) a t N H1) : zhr E D cA H0 scr L (zup m a k x) H1 := by
  obtain ⟨g1, g2, g3, g4, g5, g6, g7⟩ := hh
  refine ⟨g1, g2, g3, fun j hj => ?_, by rw [hz]; exact g5, fun q hq => by rw [ho q (by omega)]; exact g6 q hq, fun b t N hb hl => ?_⟩
  · have e : zup m a k x 1 j = m 1 j := by unfold zup; rw [if_neg (by omega)]
    rw [e]; exact g4 j hj
  · by_cases e : b = a
    · subst e; exact hc t N hl
    · have em : ∀ j, zup m a k x b j = m b j := fun j => by unfold zup; rw [if_neg (fun q => e q.1)]
      obtain ⟨c1, c2⟩ := g7 b t N hb hl
      have hq : H1[E.1 + (b - 2)]? = H[E.1 + (b - 2)]? := ho _ (by omega)
      refine ⟨fun j hj => by rw [em]; exact c1 j hj, ?_⟩
      rcases c2 with ⟨d1, d2, d3, d4, d5⟩ | ⟨d1, d2, d3, d4⟩
      · exact Or.inl ⟨d1, d2, d3, d4, (d5.kept hq).to (fun j _ => by rw [em])⟩
      · refine Or.inr ⟨d1, d2, d3, ?_⟩
        rw [hq, d4]
        congr 2
        funext j
        rw [em]
/-- what a row of the fields' table gives -/
theorem zfld_spec {ci k : Nat} {t f kd : Nat} (hk : k < 10000) (h : zlk zfld (zkey ci k) = some (t, f, kd)) : (kd = 5 ∨ kd = 6) ∨
    (1 ≤ t ∧ t ≤ 11 ∧ f < (zcT (t - 1)).2.2 ∧ kd = ztyk (ztyf (t - 1) f) ∧ kd ≤ 3 ∧ ((zcT (t - 1)).2.1 f).1 = (zcT (t - 1)).1 ∧
      ∃ (nest : Bool) (pl : Nat), lw_tbl[pl]? = some (if nest then Cond.fieldLinkNest (zowns.getD ci "") k (zcT (t - 1)).1 ((zcT (t - 1)).2.1 f).2.1 ((zcT (t - 1)).2.1 f).2.2.1 "StolenFinals" else Cond.fieldLink (zowns.getD ci "") k (zcT (t - 1)).1 ((zcT (t - 1)).2.1 f).2.1 ((zcT (t - 1)).2.1 f).2.2.1)) := by
  have h1 := zfchk_all _ (zlk_mem h)
  have e1 : zkey ci k / 10000 = ci := by unfold zkey; omega
  have e2 : zkey ci k % 10000 = k := by unfold zkey; omega
  unfold zfchk at h1
  split at h1
  · rename_i nest pl fin hp
    simp only [e1, e2, decide_eq_true_eq] at h1
    obtain ⟨a1, a2, a3, a4, a5, a6, a7⟩ := h1
    exact Or.inr ⟨a1, a2, a3, a4, by rw [a4]; exact ((zcl_kd (t - 1) (by omega)).2 f a3).2, a6, nest, pl, a7⟩
  · exact Or.inl (by simpa using h1)
theorem zK_hts (hK : zK E D cA H0 scr s) {ci : Nat} (hc : ci < 11) : ∀ w ∈ u_ws (zcT ci).1 (zcT ci).2.1 (zcT ci).2.2, w.before args s = true := fun w hw => by
  obtain ⟨h1, h2⟩ := zcl_ws ci hc w hw
  exact zgw_warm h2 (State.WarmedH.refl s) (hK.2.1 w h1 h2)
theorem zx_get {k t f kd a : Nat} {r : List Value} {ci : Nat} (hx : p.tables.exec = Jvm.exec) (hb : c.code = cc) (hown : s.vm.findClass (zowns.getD ci "") = some mt.cls) (hK : zK E D cA H0 scr s) (hh : zhr E D cA H0 scr L m H) (hk : k < 10000) (hf : zlk zfld (zkey ci k) = some (t, f, kd)) (hkd : kd ≤ 3) (ht : zt L a = t)
    (hd : decode cc pc = .ok (.getfield k, 3)) (kk : ∀ w, zvr E (zty kd (m a f)) w → W p l e R s mt args below meth c H locs cells slots Q (F0 mt (pc + 3) lc (w :: r))) : W p l e R s mt args below meth c H locs cells slots Q (F0 mt pc lc (zad E a :: r)) := by
  rcases zfld_spec hk hf with h | ⟨a1, a2, a3, a4, a5, a6, nest, pl, a7⟩
  · omega
  · have h2 : 2 ≤ a := zhr_two hh (by omega) (by omega)
    rw [zad_two h2]
    obtain ⟨c1, c2⟩ := zhr_cell hh (by omega) h2
    rw [ht] at c1 c2
    rcases c2 with ⟨-, -, -, d4, cell, q1, q2, q3, q4⟩ | ⟨d1, -⟩
    · have hN : zn L a = (zcT (t - 1)).2.2 := by rw [d4]; exact (zcl_kd (t - 1) (by omega)).1
      obtain ⟨hS, hfc, kC, hkC, hkind⟩ := hK.1.1 (t - 1) _ (zcT_get (by omega))
      obtain ⟨cf, kf, fi, fd, hi, hsl⟩ := hS f a3
      have hkd2 : zkd t f = kd := by
        unfold zkd
        rw [if_pos (by omega), ((zcl_kd (t - 1) (by omega)).2 f a3).1, a4]
      have hval := q4 f (by rw [hN]; exact a3)
      have hvr : zvr E (zty kd (m a f)) (zcv E (zkd t f) (m a f)) := by
        have := zcv_vr (E := E) (c1 f (by rw [hN]; exact a3))
        rw [hkd2] at this ⊢
        exact this
      have hst := (u_facts hfc hkC (u_lays (zK_hts (args := args) hK (ci := t - 1) (by omega)) (fun _ h => h) a3) hi).1
      rw [a6] at hi
      cases nest with
      | false =>
        rw [if_neg (by decide)] at a7
        exact W.getf hx hb hown (hK.use pl a7 rfl) hi hst q1 (by rw [q3]; exact fun h => by cases h) (v := zcv E (zkd t f) (m a f)) (by rw [hsl]; exact hval) rfl rfl hd (kk _ hvr)
      | true =>
        rw [if_pos rfl] at a7
        exact va_Wgetf hx hb hown (hK.use pl a7 rfl) hi hst q1 (by rw [q3]; exact fun h => by cases h) (v := zcv E (zkd t f) (m a f)) (by rw [hsl]; exact hval) rfl rfl hd (kk _ hvr)
    · omega
theorem z_narrow {kd n : Nat} {ty : FieldType} {x : Int} {w : Value} (hk : kd = ztyk ty) (hk3 : kd ≤ 3) (ho : zok n kd x) (hw : w = zcv E kd x) : narrow ty w = w ∧ fits ty w = true := by
  subst hw
  match ty, hk with
  | .int, hk => subst hk; exact ⟨rfl, rfl⟩
  | .boolean, hk =>
    subst hk
    rcases ho with rfl | rfl
    · show narrow FieldType.boolean (.int 0) = .int 0 ∧ fits FieldType.boolean (.int 0) = true
      exact ⟨by decide, by decide⟩
    · show narrow FieldType.boolean (.int 1) = .int 1 ∧ fits FieldType.boolean (.int 1) = true
      exact ⟨by decide, by decide⟩
  | .long, hk => subst hk; exact ⟨rfl, rfl⟩
  | .object n, hk =>
    subst hk
    show narrow _ (zad E x.toNat) = zad E x.toNat ∧ fits _ (zad E x.toNat) = true
    unfold zad
    split
    · exact ⟨rfl, rfl⟩
    · split <;> exact ⟨rfl, rfl⟩
  | .array n, hk =>
    subst hk
    show narrow _ (zad E x.toNat) = zad E x.toNat ∧ fits _ (zad E x.toNat) = true
    unfold zad
    split
    · exact ⟨rfl, rfl⟩
    · split <;> exact ⟨rfl, rfl⟩
  | .byte, hk => subst hk; exact absurd hk3 (by decide)
  | .char, hk => subst hk; exact absurd hk3 (by decide)
  | .short, hk => subst hk; exact absurd hk3 (by decide)
  | .float, hk => subst hk; exact absurd hk3 (by decide)
  | .double, hk => subst hk; exact absurd hk3 (by decide)
theorem zx_put {k t f kd a : Nat} {x : Int} {r : List Value} {ci : Nat} (hx : p.tables.exec = Jvm.exec) (hb : c.code = cc) (hown : s.vm.findClass (zowns.getD ci "") = some mt.cls) (hK : zK E D cA H0 scr s) (hh : zhr E D cA H0 scr L m H) (ho : ∀ q ∈ locs, E.1 ≤ q.base) (hk : k < 10000) (hf : zlk zfld (zkey ci k) = some (t, f, kd)) (hkd : kd ≤ 3) (ht : zt L a = t)
    (hv : zok L.1.length kd x) (hin : ((zcT (t - 1)).2.1 f).2.2.2 = true → meth.name = "<init>" ∧ zowns.getD ci "" = (zcT (t - 1)).1)
    (hd : decode cc pc = .ok (.putfield k, 3)) (kk : ∀ (H1 : Heap) (locs1 : List Loc), zhr E D cA H0 scr L (zup m a f x) H1 → (∀ q ∈ locs1, E.1 ≤ q.base) → W p l e R s mt args below meth c H1 locs1 cells slots Q (F0 mt (pc + 3) lc r)) : W p l e R s mt args below meth c H locs cells slots Q (F0 mt pc lc (zcv E kd x :: zad E a :: r)) := by
  rcases zfld_spec hk hf with h | ⟨a1, a2, a3, a4, a5, a6, nest, pl, a7⟩
  · omega
  · have h2 : 2 ≤ a := zhr_two hh (by omega) (by omega)
    rw [zad_two h2]
    obtain ⟨c1, c2⟩ := zhr_cell hh (by omega) h2
    rw [ht] at c1 c2
    rcases c2 with ⟨d1, d2, d3, d4, cell, q1, q2, q3, q4⟩ | ⟨d1, -⟩
    · have hN : zn L a = (zcT (t - 1)).2.2 := by rw [d4]; exact (zcl_kd (t - 1) (by omega)).1
      have hKt := hK.1.1 (t - 1) _ (zcT_get (by omega))
      obtain ⟨hS, hfc, kC, hkC, hkind⟩ := hKt
      obtain ⟨cf, kf, fi, fd, hi, hsl⟩ := hS f a3
      have hkd2 : zkd t f = kd := by
        unfold zkd
        rw [if_pos (by omega), ((zcl_kd (t - 1) (by omega)).2 f a3).1, a4]
      have hts := zK_hts (args := args) hK (ci := t - 1) (by omega)
      have hap : ∀ x y, x < zn L a → y < zn L a → x ≠ y → (D.2 (t - 1)) x ≠ (D.2 (t - 1)) y := by
        rw [hN]
        exact va_apart (cl := zclasses) (own := zowns.getD ci "") hts (fun _ h => h) (ztyf (t - 1)) (zcl_ty (t - 1) (by omega)) (zcl_nm (t - 1) (by omega)) hK.1 (zcT_get (by omega))
      have hst := (u_facts hfc hkC (u_lays hts (fun _ h => h) a3) hi).1
      obtain ⟨hn, hfit⟩ := z_narrow (E := E) (n := L.1.length) a4 a5 hv rfl
      have hlt : fd.slot < cell.slots.size := by rw [hsl]; exact k2_hasslot (q4 f (by rw [hN]; exact a3))
      have fin : ∀ (H' : Heap), H'[E.1 + (a - 2)]? = some (cell.setSlot fd.slot (zcv E kd x)) → H'.size = H.size → (∀ q, q ≠ E.1 + (a - 2) → H'[q]? = H[q]?) → W p l e R s mt args below meth c H' (locs ++ [⟨E.1 + (a - 2), fd.slot⟩]) cells slots Q (F0 mt (pc + 3) lc r) := by
        intro H' e1 e2 e3
        refine kk H' _ (zhr_put hh h2 e2 e3 (fun t' N' hl => ?_)) (fun q hq => ?_)
        · have hl2 : L.1[a]? = some (t, zn L a) := by rw [← ht]; exact z_layat (by omega)
          rw [hl2] at hl
          cases hl
          refine ⟨fun j hj => ?_, Or.inl ⟨d1, d2, d3, d4, ?_⟩⟩
          · by_cases ej : j = f
            · subst ej
              rw [show zup m a j x a j = x by unfold zup; rw [if_pos ⟨rfl, rfl⟩], hkd2]
              exact hv
            · rw [show zup m a f x a j = m a j by unfold zup; rw [if_neg (fun q => ej q.2)]]
              exact c1 j hj
          · rw [hsl] at e1
            refine t_OB.to (V := updV (fun k => zcv E (zkd t k) (m a k)) f (zcv E kd x)) ⟨_, e1, q2, q3, t_set q4 hap (by rw [hN]; exact a3) _⟩ (fun j _ => ?_)
            by_cases ej : j = f
            · subst ej
              simp only [updV, if_true, zup, and_self, hkd2]
            · simp only [updV, ej, if_false, zup, and_false]
        · rcases List.mem_append.mp hq with h | h
          · exact ho q h
          · rw [List.mem_singleton.mp h]; exact Nat.le_add_right _ _
      have hlay := hts _ (u_in_lay a3)
      unfold u_lay at hlay
      have hi2 := hi
      rw [a6] at hi2
      by_cases hfn : ((zcT (t - 1)).2.1 f).2.2.2 = true
      · obtain ⟨hin1, hin2⟩ := hin hfn
        rw [if_pos hfn] at hlay
        have hcf : mt.cls = cf := by
          obtain ⟨_, _, c', _, _, _, -, -, hf', -, -, -, hown2, -⟩ := Cond.laysFinal_spec hlay
          have e1 : c' = cf := by have := hi.symm.trans hf'; simp at this; exact this.1.symm
          rw [a6, ← hin2] at hown2
          rw [← e1]; exact Option.some.inj (hown.symm.trans hown2)
        have h6 := u_fits hfc hkC hkind (Or.inr hlay) hi (zcl_ty (t - 1) (by omega) f a3) hn hfit
        cases nest with
        | false =>
          rw [if_neg (by decide)] at a7
          exact W.putFinK hx hb hown (hK.use pl a7 rfl) hi2 hst hcf hin1 (by rw [q2]; exact h6) q1 q3 hlt rfl rfl hd fin
        | true =>
          rw [if_pos rfl] at a7
          have ha : E.1 + (a - 2) < H.size := (Array.getElem?_eq_some_iff.mp q1).1
          refine va_Wputf hx hb hown (hK.use pl a7 rfl) hi2 hst (Or.inr ⟨hcf, hin1⟩) q1 (by rw [q3]; exact fun h => by cases h) hlt h6.1 (by rw [q2, q3]; exact h6.2) rfl rfl hd (fin _ ?_ ?_ ?_)
          · simp [Array.getElem?_setIfInBounds, ha]
          · simp
          · intro q hq
            simp [Array.getElem?_setIfInBounds, Ne.symm hq]
      · rw [if_neg hfn] at hlay
        have h6 := u_store hfc hkC hkind hlay hi (zcl_ty (t - 1) (by omega) f a3) hn hfit
        cases nest with
        | false =>
          rw [if_neg (by decide)] at a7
          exact W.putK hx hb (f := fd) ⟨hown, hK.use pl a7 rfl, ⟨_, _, _, hi2⟩, hst⟩ (by rw [q2]; exact h6) q1 q3 hlt rfl rfl hd fin
        | true =>
          rw [if_pos rfl] at a7
          exact va_WputK hx hb (f := fd) hown (hK.use pl a7 rfl) hi2 hst (by rw [q2]; exact h6) q1 q3 hlt rfl rfl hd fin
    · omega
end ZC
