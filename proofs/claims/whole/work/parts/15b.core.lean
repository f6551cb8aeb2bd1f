section ZL
theorem zdec_law {pc : Nat} {i : Instr} {n : Nat} (h : decode (zmd 258).2.1 pc = .ok (i, n)) : decode code pc = .ok (i, n) := h
/-- the law from its entry: the machine's run, and what the law's own told owes -/
theorem whole_core {p : Program} {e : Env} {s : State} {m : MethodId} {below : List Frame} {meth : Method} {c : Code} (l : Launch) {b N : Nat} {xs : Nat → Int32} (C0 : lw_At p s m meth c b N xs) {E : zE} {D : va_G} {cA : Nat → ClassId} {scr : Cell} (hK : zK E D cA s.heap scr s) (hE : E.2.1 = b) (hE1 : E.1 = s.heap.size) (hn : scr.slots.size = N) (hsl : ∀ j, j < N → scr.slots[j]? = some (.int (xs j)))
    (hT : zTold p l e room_1 s m #[Value.ref b] below meth c (lw_Z below #[Value.ref b] s) E D cA s.heap scr (zmd 258).2.1 (zcl 258) 2 N) {n : Nat} {m0 m' : zM} {L' : zY} (hm0 : ∀ j, m0 1 j = (xs j).toInt) (hev : zev n 258 0 [zA 1, zU, zU, zU, zU, zU, zU] [] ([(0, 0), (20, N)], (0, 0)) m0 = some (some (zI 1), L', m')) (hc : zcells L' - 2 ≤ 601024) (hs : zslots L' - N ≤ 7293034) :
    W p l e room_1 s m #[Value.ref b] below meth c s.heap [] 0 0 (lw_Z below #[Value.ref b] s) (entryFrame m ([Value.ref b] : List Value).toArray 7) := by
  obtain ⟨hx, hb, hr, hml, hown, hts, hX, hbl, hlocks, hgv⟩ := id C0
  have has : zsr E [zA 1] [Value.ref b] := ⟨by show Value.ref b = zad E 1; unfold zad; rw [if_neg (by decide), if_pos rfl, hE], trivial⟩
  have hlr := zent_lr (n := 7) has (by decide)
  rw [lg_entry_eq]
  generalize ((lg_sl [Value.ref b] ++ List.replicate (7 - (lg_sl [Value.ref b]).length) Slot.unset).toArray) = lc at hlr ⊢
  have hh : zhr E D cA s.heap scr ([(0, 0), (20, N)], (0, 0)) m0 s.heap := by
    refine ⟨Nat.le_refl _, rfl, by rw [hn]; rfl, fun j hj => ?_, by rw [hE1]; rfl, fun q _ => rfl, fun a t N' ha hl => ?_⟩
    · rw [hm0, hsl j (by omega)]
      refine ⟨by rw [Int32.ofInt_toInt], ?_⟩
      exact ⟨Int32.le_toInt (xs j), Int32.toInt_lt (xs j)⟩
    · have : ([(0, 0), (20, N)] : List (Nat × Nat))[a]? = none := List.getElem?_eq_none (by show 2 ≤ a; exact ha)
      rw [show (([(0, 0), (20, N)], (0, 0)) : zY).1[a]? = none from this] at hl
      cases hl
  have key := z_sound l E D cA s.heap scr n 258 0 [zA 1, zU, zU, zU, zU, zU, zU] [] ([(0, 0), (20, N)], (0, 0)) m0 (some (zI 1)) L' m' hev (by decide) p e room_1 s m #[Value.ref b] below meth c (lw_Z below #[Value.ref b] s) s.heap [] lc [] 2 N hx hb hml hown hK (fun q => absurd rfl q) (by decide +kernel) (by decide +kernel) (Nat.le_refl _) (by show N ≤ 0 + (N + 0) + 0; omega) ⟨hc, hs⟩ hT hlr trivial hh (fun _ h => by cases h) ?_
  · have e1 : zcells (([(0, 0), (20, N)], (0, 0)) : zY) - 2 = 0 := rfl
    have e2 : zslots (([(0, 0), (20, N)], (0, 0)) : zY) - N = 0 := by show 0 + (N + 0) + 0 - N = 0; omega
    rw [e1, e2] at key
    exact key
  · intro pc' i lc' sc' H' locs' hd he hh' ho
    rcases he with ⟨rfl, x, v, hx1, rfl, hv, -⟩ | ⟨rfl, -, x, v, hx1, -⟩ | ⟨rfl, -, a, hx1, -⟩ | ⟨rfl, -, hx1, -⟩
    · have hx2 : x = 1 := (Sum.inl.inj (Option.some.inj hx1)).symm
      have hv1 : v = 1 := Int32.toInt_inj.mp (by rw [hv, hx2]; rfl)
      subst hv1
      refine va_forget (fun q hq => by rw [← hE1]; exact ho q hq) ?_
      refine W.widen (k := 601024) (n := 7293034) hc hs ?_
      exact lw_ret hx hb hr hlocks (zdec_law hd)
    · cases hx1
    · cases hx1
    · cases hx1
end ZL
