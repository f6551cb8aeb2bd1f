/-! the law: what holds at the head of its loop -/
theorem zCB_fr {L : zY} {m m' : zM} {T : List Int} {od : Option zD} {R : List Int} {C : Nat} {H : zHs} {sc sp : Nat} (h : ∀ a, a ≤ 331 → m' a = m a) (hh : zCB L m T od R C H sc sp) : zCB L m' T od R C H sc sp := by
  obtain ⟨h1, h2, ⟨ov, h3⟩, ⟨r, c, o, h4⟩, h5, h6, h7, h8, h9, h10⟩ := hh
  exact ⟨zTp_eq (h _ (by decide)) (h _ (by decide)) h1, by rw [h 3 (by decide)]; exact h2, ⟨ov, zRw_eq (h _ (by decide)) (h _ (by decide)) h3⟩, ⟨r, c, o, zRw_eq (h _ (by decide)) (h _ (by decide)) h4⟩, zRC_eq (fun a p q => h a (by omega)) h5, zRL_eq (fun k _ => by rw [h 20 (by decide)]) h6, zHi_eq (fun a p q => h a (by omega)) h7, zTl_eq (fun a p q => h a (by omega)) h8, h9, zScs_eq (fun a p q => h a (by omega)) h10⟩
theorem zCI_fr {L : zY} {m m' : zM} {g : zG} (h : ∀ a, a ≤ 331 → m' a = m a) (hh : zCI L m g) : zCI L m' g := by
  obtain ⟨T, od, R, C, H, f, p, q⟩ := g
  obtain ⟨sc, sp, hO, hB⟩ := hh
  exact ⟨sc, sp, zCO_eq (h 2 (by decide)) hO, zCB_fr h hB⟩
/-- the layout alone counts, not what nobody holds -/
theorem zCI_L {L L' : zY} {m : zM} {g : zG} (h : L'.1 = L.1) (hh : zCI L m g) : zCI L' m g := by
  obtain ⟨a, b⟩ := L
  obtain ⟨a', b'⟩ := L'
  have h : a' = a := h
  subst h
  exact hh
theorem zMt_L {L L' : zY} (h : L'.1 = L.1) (hh : zMt L) : zMt L' := by
  obtain ⟨a, b⟩ := L
  obtain ⟨a', b'⟩ := L'
  have h : a' = a := h
  subst h
  exact hh
theorem zMn_L {L L' : zY} (h : L'.1 = L.1) (hh : zMn L) : zMn L' := by
  obtain ⟨a, b⟩ := L
  obtain ⟨a', b'⟩ := L'
  have h : a' = a := h
  subst h
  exact hh
theorem rKp_lo {a k : Nat} (h : rKp a k) : 332 ≤ a ∧ a ≤ 370 := by
  rcases h with h | h | h | h | h | h <;> omega
theorem rSt_fr {m m' : zM} {g : zG} (hg : gOk g) (h : ∀ a, 332 ≤ a → a ≤ 370 → m' a = m a) (hh : rSt m g) : rSt m' g := rSt_sf hg (fun a k p => by rw [h a (rKp_lo p).1 (rKp_lo p).2]) hh
/-- the law's own told -/
theorem s258_told {ls st' : List zV} {o a : Nat} {kq sort : Int} {L L' : zY} {m m' : zM} {Q : zQ} (h : ztold [zA o, zI kq, zI sort, zA a] L m = some (st', L', m')) : zwp 258 985 ls [zA o, zI kq, zI sort, zA a] L m Q ↔ zwp 258 988 ls st' L' m' Q := by
  refine zr_go (n := 3) (i := .invokestatic 141) (by decide +kernel) ?_
  show (if 9 ≤ zfr 258 ∧ 300 ≤ zlo 258 then (ztold [zA o, zI kq, zI sort, zA a] L m).bind (fun q => zgo 988 ls q.1 q.2.1 q.2.2) else none) = _
  rw [if_pos (by decide +kernel), h]
  rfl
def lawI (N : Nat) (L : zY) (m : zM) (g : zG) : Prop := gK g ∧ zCI L m g ∧ rSt m g ∧ zMt L ∧ zMn L ∧ (zt L 1 = 20 ∧ zn L 1 = N) ∧ zt L 371 = 21 ∧ zn L 371 = 1 ∧ ∀ j, m 1 j < 2147483648
theorem lawI_2 {N : Nat} {L : zY} {m : zM} {g : zG} (h : lawI N L m g) : zt L 2 = 10 := by
  obtain ⟨T, od, R, C, H, f, p, q⟩ := g
  obtain ⟨-, ⟨sc, sp, hO, -⟩, -⟩ := h
  exact hO.1
/-- both sides have answered -/
theorem lawI_s {N : Nat} {L : zY} {m m1 m2 : zM} {g g' : zG} (h : lawI N L m g) (hg : gK g') (hC : zCI L m1 g') (hR : rSt m2 g') (f1 : zFR 2 331 m m1) (f2 : zFR 332 370 m1 m2) : lawI N L m2 g' := ⟨hg, zCI_fr (fun a ha => f2 a (by omega)) hC, hR, h.2.2.2.1, h.2.2.2.2.1, h.2.2.2.2.2.1, h.2.2.2.2.2.2.1, h.2.2.2.2.2.2.2.1, fun j => by rw [f2 1 (by decide), f1 1 (by decide)]; exact h.2.2.2.2.2.2.2.2 j⟩
theorem lawI_r {N : Nat} {L : zY} {m m1 : zM} {g : zG} (h : lawI N L m g) (f1 : zFR 2 331 m m1) : rSt m1 g := rSt_fr h.1.1 (fun a p q => f1 a (by omega)) h.2.2.1
theorem sd_told {L : zY} {m : zM} {sc : Nat} {D : zD} {a : Nat} {sort kq : Int} {b : Prop} [Decidable b] (hS : zSd L m sc D) (h9 : m a 9 = (sc : Int)) (ht : zt L a = 10) (hb : m a 11 = (if b then 1 else 0)) {o : Nat} (t3 : zt L o = 21) (n3 : 0 < zn L o) : ztold [zA o, zI kq, zI sort, zA a] L m = if b ∧ (0 ≤ sort ∧ sort ≤ 2) ∧ 0 ≤ kq ∧ kq < ((tdL D sort).length : Int) then some ([zI 0], L, zup m o 0 (kk ((tdL D sort).getD kq.toNat 0))) else some ([zI 1], (L.1, (L.2.1 + 1, L.2.2 + 6)), m) := by
  obtain ⟨⟨s1, s2, -, b1, b2, b3, -⟩, -, l1, l2, l3, -⟩ := hS
  have key : ∃ q cap : Nat, (m sc (if sort = 0 then 1 else if sort = 1 then 2 else 3)).toNat = q ∧ zKL L m q cap ((tdL D sort).map kk) := by
    by_cases e0 : sort = 0
    · exact ⟨sc + 2, 10, by rw [if_pos e0, b1, Int.toNat_natCast], by unfold tdL; rw [if_pos e0]; exact l1⟩
    · by_cases e1 : sort = 1
      · exact ⟨sc + 4, 8, by rw [if_neg e0, if_pos e1, b2, Int.toNat_natCast], by unfold tdL; rw [if_neg e0, if_pos e1]; exact l2⟩
      · exact ⟨sc + 6, 4, by rw [if_neg e0, if_neg e1, b3, Int.toNat_natCast], by unfold tdL; rw [if_neg e0, if_neg e1]; exact l3⟩
  obtain ⟨q, cap, hq, k1, k2, k3, k4, k5, k6, k7, k8, k9⟩ := key
  rw [List.length_map] at k7 k8
  have e9 : (m a 9).toNat = sc := by rw [h9, Int.toNat_natCast]
  have e6 : (m q 0).toNat = q + 1 := by rw [k6, Int.toNat_natCast]
  show (if zt L a = 10 ∧ zt L o = 21 ∧ 0 < zn L o ∧ zsum [] ≤ 8 ∧ zt L (m a 9).toNat = 6 then _ else none) = _
  rw [e9, if_pos ⟨ht, t3, n3, by decide, s1⟩]
  rw [hq, e6, if_pos ⟨k1, by omega, k2, by rw [k7, k3]; omega⟩, hb, k7]
  by_cases c : b ∧ (0 ≤ sort ∧ sort ≤ 2) ∧ 0 ≤ kq ∧ kq < ((tdL D sort).length : Int)
  · rw [if_pos c, if_pos ⟨by rw [if_pos c.1], c.2.1.1, c.2.1.2, c.2.2.1, c.2.2.2⟩]
    have hi : kq.toNat < (tdL D sort).length := by have := c.2.2; omega
    have hv : m (q + 1) kq.toNat = kk ((tdL D sort).getD kq.toNat 0) := by
      have := k9 kq.toNat (kk ((tdL D sort).getD kq.toNat 0)) (by rw [List.getElem?_map, List.getElem?_eq_getElem hi, Option.map_some, getD_lt hi])
      rw [Nat.zero_add] at this
      exact this
    rw [hv]
  · rw [if_neg c, if_neg (fun z => c ⟨Classical.byContradiction (fun y => by have := z.1; rw [if_neg y] at this; cases this), ⟨z.2.1, z.2.2.1⟩, z.2.2.2⟩)]
/-- told of the class, as it stands in the machine -/
theorem c_lawtold {N : Nat} {L : zY} {m : zM} {g : zG} {sort kq : Int} (h : lawI N L m g) : ztold [zA 371, zI kq, zI sort, zA 2] L m = match sTold g sort kq with
    | some v => some ([zI 0], L, zup m 371 0 v)
    | none => some ([zI 1], (L.1, (L.2.1 + 1, L.2.2 + 6)), m) := by
  obtain ⟨T, od, R, C, H, f, p, q⟩ := g
  obtain ⟨-, ⟨sc, sp, hO, hB⟩, -, -, -, -, t3, n3, -⟩ := h
  cases od with
  | none =>
    obtain ⟨⟨D, hS, -⟩, -⟩ := hB.2.2.2.2.2.2.2.2.2.2
    rw [sd_told (b := False) hS hO.2.1.2.2.2.2.2.2.2.2.2.1 hO.1 hO.2.2.1 t3 (by omega), if_neg (fun z => z.1)]
    rfl
  | some D =>
    obtain ⟨hS, -⟩ := sc_facts hB
    rw [sd_told (b := True) hS hO.2.1.2.2.2.2.2.2.2.2.2.1 hO.1 hO.2.2.1 t3 (by omega)]
    by_cases c : (0 ≤ sort ∧ sort ≤ 2) ∧ 0 ≤ kq ∧ kq < ((tdL D sort).length : Int)
    · have e : sTold (T, some D, R, C, H, f, p, q) sort kq = some (kk ((tdL D sort).getD kq.toNat 0)) := if_pos c
      rw [e, if_pos ⟨trivial, c⟩]
    · have e : sTold (T, some D, R, C, H, f, p, q) sort kq = none := if_neg c
      rw [e, if_neg (fun z => c z.2)]
