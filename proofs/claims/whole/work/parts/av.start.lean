/-! the law's step of told, and the law from its entry -/
theorem yy_cal5 : ∀ q ∈ zcal, q.2.2.2 = 5 → q.1 = 110141 := by decide +kernel
theorem yyX_entry {p : Program} {s : State} {m : MethodId} {meth : Method} {c : Code} {b N : Nat} {xs : Nat → Int32} (C0 : lw_At p s m meth c b N xs) {E : zE} (hE : E.1 = s.heap.size) : yyX E s.heap s := by
  obtain ⟨hx, hb, hr, hml, hown, hts, hX, hbl, hlocks, hgv⟩ := C0
  have hs := flat_of_before _ hgv
  have hA : ∀ a : Nat, a < s.heap.size → ¬ (fun q : Nat => E.1 ≤ q) a := fun a h => by show ¬ E.1 ≤ a; omega
  exact ⟨⟨va_Nw.of rfl (hts _ (by decide +kernel)), va_Nw.of rfl (hts _ (by decide +kernel)), va_Nw.of rfl (hts _ (by decide +kernel)), va_Nw.of rfl (hts _ (by decide +kernel))⟩, vx_Zqof (hts _ (by decide +kernel)) (hts _ (by decide +kernel)) (hs _ (by decide +kernel)) hA, vx_Zqof (hts _ (by decide +kernel)) (hts _ (by decide +kernel)) (hs _ (by decide +kernel)) hA⟩
set_option maxHeartbeats 4000000 in
theorem yy_told {p : Program} {l : Launch} {e : Env} {s : State} {mt : MethodId} {below : List Frame} {meth : Method} {c : Code} {b N : Nat} {xs : Nat → Int32} {Q : State → Prop} (C0 : lw_At p s mt meth c b N xs) (hl : l.stackTraces = false) {E : zE} {D : va_G} {cA : Nat → ClassId} {scr : Cell} (hK : zK E D cA s.heap scr s) (hX : yyX E s.heap s) :
    zTold p l e room_1 s mt #[Value.ref b] below meth c Q E D cA s.heap scr (zmd 258).2.1 (zcl 258) 2 N := by
  obtain ⟨hx, hb, hr, hml, hown, -, -, -, -, -⟩ := C0
  intro k q a pc st st' L L' m m' H locs lc sc hk1 hk2 hd h9 h300 hc0 hs0 hR hsz hs hh ho htold kk
  have hk : k = 141 := by
    have h := yy_cal5 _ (zlk_mem hk1) rfl
    have h1 : zcl 258 = 11 := by decide +kernel
    have h2 : zkey (zcl 258) k = 110141 := h
    rw [h1] at h2
    unfold zkey at h2
    omega
  subst hk
  have hb' : c.code = (zmd 258).2.1 := hb
  have hfx : CallFix p mt c (zmd 258).2.1 c.maxLocals s #[Value.ref b] ([] : List Cond) RL := ⟨hx, hb', rfl, hown, fun w hw => by cases hw⟩
  have hwsm : ∀ w ∈ yyws, ∀ (a' : Array Value) (U : State), s.WarmedH U.vm → w.before a' U = true := fun w hw a' U hW => by
    rw [yyws, List.mem_singleton] at hw
    subst hw
    exact hK.wd yy_m3 (by rfl) hW
  have cw : ∀ mc ms, vx_CSW room_1 s #[Value.ref b] RL 141 yL_told cL_told 5 (some .int) [(0, 10, 13, 13)] yyws ({ frames := 8, cells := mc, slots := ms, locals := 276 } : Room) mc ms 4 := fun mc ms =>
    ⟨⟨rfl, rfl, h9, h300, hwsm, List.mem_singleton.mpr rfl⟩, hK.w0 yy_m3 (by rfl), hK.w0 yy_m12 (by rfl), ⟨by decide +kernel, by decide +kernel⟩, yy_sigL, hK.w0 yy_m10 (by rfl), hK.w0 yy_m11 (by rfl)⟩
  unfold ztold at htold
  split at htold
  case h_2 => cases htold
  rename_i o y x a1 r
  split at htold
  case isFalse => cases htold
  rename_i hcnd
  obtain ⟨ha, hot, hon, hsum, hc⟩ := hcnd
  dsimp only at htold
  generalize hjj : (if x = 0 then (1 : Nat) else if x = 1 then 2 else 3) = jj at htold
  split at htold
  case isFalse => cases htold
  rename_i hqq
  obtain ⟨hq1, hks2, hks, hlen⟩ := hqq
  obtain ⟨w1, sc1, rfl, g1, hs1⟩ := zsr_cons hs
  obtain ⟨w2, sc2, rfl, ⟨y9, rfl, hy9⟩, hs2⟩ := zsr_cons hs1
  obtain ⟨w3, sc3, rfl, ⟨x9, rfl, hx9⟩, hs3⟩ := zsr_cons hs2
  obtain ⟨w4, sc4, rfl, g4, hs4⟩ := zsr_cons hs3
  have g1 : w1 = zad E o := g1
  have g4 : w4 = zad E a1 := g4
  have ha2 : 2 ≤ a1 := zhr_two hh (by omega) (by omega)
  have ho2 : 2 ≤ o := zhr_two hh (by omega) (by omega)
  rw [zad_two ho2] at g1
  rw [zad_two ha2] at g4
  subst g1
  subst g4
  subst hx9
  subst hy9
  have hsumr : (sc4.map fun v => v.category).sum ≤ 8 := by rw [zsr_sum hs4]; exact hsum
  have hpre : PreS s H (yyPc E D cA s.heap scr L m [.ref (E.1 + (a1 - 2)), .int x9, .int y9, .ref (E.1 + (o - 2))]) [.ref (E.1 + (a1 - 2)), .int x9, .int y9, .ref (E.1 + (o - 2))] := ⟨yyPc_blind, fun U hU hW => ⟨⟨rfl, by rw [hU]; exact hh, hK.warm hW⟩, hX.warm hW⟩⟩
  have hqe : 0 ≤ x9.toInt → x9.toInt ≤ 2 → yyQ m (m a1 9).toNat x9.toInt = (m (m a1 9).toNat jj).toNat := fun p1 p2 => by
    rw [← hjj]
    unfold yyQ
    by_cases e0 : x9.toInt = 0
    · rw [if_pos e0, if_pos e0]
    · by_cases e1 : x9.toInt = 1
      · rw [if_neg e0, if_pos e1, if_neg e0, if_pos e1]
      · rw [if_neg e0, if_neg e1, if_pos (by omega), if_neg e0, if_neg e1]
  have fin : ∀ (mc ms : Nat) (Lz : zY) (mz : zM) (z : Int), zcells Lz = zcells L + mc → zslots Lz = zslots L + ms → st' = zI z :: r → L' = Lz → m' = mz → vx_Met l yL_told yyws { frames := 8, cells := mc, slots := ms, locals := 276 } (yyPc E D cA s.heap scr L m [.ref (E.1 + (a1 - 2)), .int x9, .int y9, .ref (E.1 + (o - 2))]) (zQc E D cA s.heap scr Lz mz (some (zI z))) (fun _ _ _ => False) mc ms (fun q => E.1 ≤ q) →
      W p l e room_1 s mt #[Value.ref b] below meth c H locs (zcells L - 2) (zslots L - N) Q (F0 mt pc lc (.ref (E.1 + (o - 2)) :: .int y9 :: .int x9 :: .ref (E.1 + (a1 - 2)) :: sc4)) := by
    intro mc ms Lz mz z ec es h1 h2 h3 hM
    subst h2
    subst h3
    have run := vx_runSX (g := F0 mt pc lc (.ref (E.1 + (o - 2)) :: .int y9 :: .int x9 :: .ref (E.1 + (a1 - 2)) :: sc4)) (rest := sc4) (As := [.ref (E.1 + (a1 - 2)), .int x9, .int y9, .ref (E.1 + (o - 2))]) (l := l) (e := e) (below := below) (meth := meth) (locs := locs) (cells := zcells L - 2) (slots := zslots L - N) hfx hM (cw mc ms) hpre rfl rfl hsz rfl (lv_room hsumr) hd ⟨by have := hR.1; omega, by have := hR.2; omega⟩
    intro T hT X
    rcases run T hT X with ⟨v, st₀, t, T', L9, h0, X', hL, e1, e2, ⟨v', hv, hrv, hh1⟩, stp⟩ | ⟨q, st₀, t, T', L9, E9, ce, h0, X', hL, e1, e2, hF, -⟩
    · cases hv
      cases v with
      | none => exact hrv.elim
      | some b9 =>
        have hs5 : zsr E st' (b9 :: sc4) := by rw [h1]; exact ⟨hrv, hs4⟩
        have k2 := kk T'.heap (locs ++ L9) (b9 :: sc4) hs5 (by rw [e1]; exact hh1) (fun q hq => (List.mem_append.mp hq).elim (ho q) (hL q))
        have f1 : zcells L - 2 + mc = zcells L' - 2 := by omega
        have f2 : zslots L - N + ms = zslots L' - N := by omega
        rw [f1, f2] at X'
        obtain ⟨tt, a9, b1⟩ := k2 T' rfl X'
        exact ⟨tt, stp tt a9, b1⟩
    · exact hF.elim
  split at htold
  · rename_i hyes
    obtain ⟨y1, y2, y3, y4, y5⟩ := hyes
    have hqe := hqe y2 y3
    rw [← hqe] at hq1 hks2 hks hlen y5 htold
    simp only [Option.some.injEq, Prod.mk.injEq] at htold
    obtain ⟨t1, t2, t3⟩ := htold
    refine fin 0 0 L _ 0 rfl rfl t1.symm t2.symm t3.symm (yy_lawN ha2 ha ho2 hot hon (yy_ans ha hc y1 ⟨y2, y3⟩ hq1 hks ⟨y4, y5⟩ hlen ?_))
    unfold zt
    rw [List.getD_eq_getElem?_getD, hh.2.1]
    rfl
  · rename_i hno
    simp only [Option.some.injEq, Prod.mk.injEq] at htold
    obtain ⟨t1, t2, t3⟩ := htold
    refine fin 1 6 (L.1, (L.2.1 + 1, L.2.2 + 6)) m 1 (by show L.1.length + (L.2.1 + 1) = L.1.length + L.2.1 + 1; omega) (by show (L.1.map (fun q => q.2)).sum + (L.2.2 + 6) = (L.1.map (fun q => q.2)).sum + L.2.2 + 6; omega) t1.symm t2.symm t3.symm (yy_lawX hl ha2 ha hc (fun p1 p2 => by rw [hqe p1 p2]; exact hq1) (fun h => hno ?_))
    obtain ⟨n1, n2, n3, n4, n5⟩ := h
    rw [hqe n2 n3] at n5
    exact ⟨n1, n2, n3, n4, n5⟩
theorem yF_sum : (yF.map (fun q => q.2)).sum ≤ 7000000 := by decide +kernel
theorem yF_len : yF.length ≤ 600000 := by decide +kernel
set_option maxHeartbeats 4000000 in
/-- THE LAW, from its entry -/
theorem whole_start {p : Program} {e : Env} {s : State} {m : MethodId} {below : List Frame} {meth : Method} {c : Code} (l : Launch) (hflags : l.flags = flags0) {b L : Nat} {xs : Nat → Int32} (hL : L ≤ 3072) (C0 : lw_At p s m meth c b L xs) : W p l e room_1 s m #[Value.ref b] below meth c s.heap [] 0 0 (lw_Z below #[Value.ref b] s) (entryFrame m ([Value.ref b] : List Value).toArray 7) := by
  have hl : l.stackTraces = false := by
    show (!l.flags.contains noTraceFlag) = false
    rw [hflags]
    decide +kernel
  obtain ⟨E, D, cA, scr, hK, hE, hE1, hn, hsl⟩ := zk_entry C0 hL
  have hX := yyX_entry C0 hE1
  have h := c_law (N := L) (m := fun _ j => (xs j).toInt) (Q := fun r L' _ => r = some (zI 1) ∧ zcells L' - 2 ≤ 601024 ∧ zslots L' - L ≤ 7293034) (by omega) (fun j => Int32.toInt_lt (xs j)) (fun L' m' h1 h2 h3 => ⟨rfl, ?_, ?_⟩)
  · obtain ⟨n, r, L', m', hev, rfl, hc, hs⟩ := h
    exact whole_core l C0 hK hE hE1 hn hsl (yy_told C0 hl hK hX) (fun j => rfl) hev hc hs
  · unfold zcells
    rw [h1]
    have := yF_len
    show ([(0, 0), (20, L)] ++ yF).length + L'.2.1 - 2 ≤ 601024
    rw [List.length_append]
    simp only [List.length_cons, List.length_nil]
    omega
  · unfold zslots
    rw [h1]
    have := yF_sum
    show (([(0, 0), (20, L)] ++ yF).map (fun q : Nat × Nat => q.2)).sum + L'.2.2 - L ≤ 7293034
    rw [List.map_append, List.sum_append]
    simp only [List.map_cons, List.map_nil, List.sum_cons, List.sum_nil]
    omega
