/-! zK at the law's entry -/
theorem zk_wd {w : Cond} {A B : Array Value} {s : State} (h : zgw w = true) (hz : w.before A s = true) : w.before B s = true := by
  cases w with
  | fieldLinkNest => exact va_tabs (by rfl) rfl hz
  | methodLinkNest => exact va_tabs (by rfl) rfl hz
  | arrayOver t => exact hz
  | _ => exact word_at (State.WarmedH.refl s) (good_of_word (by exact h)) hz
theorem zk_arr {b : Nat} {s : State} (hts : ∀ w ∈ lw_tbl, w.before #[Value.ref b] s = true) : ∃ cA : Nat → ClassId, ∀ t, 20 ≤ t → t ≤ 23 → s.vm.findClass ("[" ++ (zaty t).toString) = some (cA t) ∧ ArrOfT s (cA t) (zaty t) := by
  obtain ⟨c0, k0, p0, f0, g0, h0⟩ := Cond.arrayClass_spec (hts (.arrayClass .int) (by decide +kernel))
  obtain ⟨c1, k1, p1, f1, g1, h1⟩ := Cond.arrayClass_spec (hts (.arrayClass .long) (by decide +kernel))
  obtain ⟨p2, c2, k2, e2, g2, h2, f2⟩ := Cond.arrayOver_specA (t := .int) (hts (.arrayOver (.array .int)) (by decide +kernel))
  obtain ⟨p3, c3, k3, e3, g3, h3, f3⟩ := Cond.arrayOver_specA (t := .long) (hts (.arrayOver (.array .long)) (by decide +kernel))
  refine ⟨fun t => if t = 20 then c0 else if t = 21 then c1 else if t = 22 then c2 else c3, fun t a b => ?_⟩
  rcases (show t = 20 ∨ t = 21 ∨ t = 22 ∨ t = 23 by omega) with rfl | rfl | rfl | rfl
  · exact ⟨f0, fun n z => ⟨(fun k h => by cases h), k0, g0, p0, h0⟩⟩
  · exact ⟨f1, fun n z => ⟨(fun k h => by cases h), k1, g1, p1, h1⟩⟩
  · exact ⟨f2, fun n z => ⟨(fun k h => by cases h), k2, g2, p2, h2⟩⟩
  · exact ⟨f3, fun n z => ⟨(fun k h => by cases h), k3, g3, p3, h3⟩⟩
theorem zk_entry {p : Program} {s : State} {m : MethodId} {meth : Method} {c : Code} {b N : Nat} {xs : Nat → Int32} (C0 : lw_At p s m meth c b N xs) (hN : N ≤ 3072) : ∃ (E : zE) (D : va_G) (cA : Nat → ClassId) (scr : Cell), zK E D cA s.heap scr s ∧ E.2.1 = b ∧ E.1 = s.heap.size ∧ scr.slots.size = N ∧ ∀ j, j < N → scr.slots[j]? = some (.int (xs j)) := by
  obtain ⟨hx, hb, hr, hml, hown, hts, hX, hbl, hlocks, hgv⟩ := C0
  have hA : ∀ a : Nat, a < s.heap.size → ¬ (fun q : Nat => s.heap.size ≤ q) a := fun a h => Nat.not_le.mpr h
  have hs := flat_of_before _ hgv
  obtain ⟨scr, x1, x2, x3, x4, x5⟩ := hX
  obtain ⟨adK, adV, k1, k2⟩ := zs_all hgv hts
  obtain ⟨D, hD⟩ := zk_cls hts
  obtain ⟨cA, hcA⟩ := zk_arr hts
  refine ⟨(s.heap.size, b, adK, adV), D, cA, scr, ⟨hD, fun w hw hg => zk_wd hg (hts w hw), hcA, x2, x3, x1, hbl, rfl, by rw [x4]; omega, k1, k2, ?_, ?_⟩, rfl, rfl, x4, x5⟩
  · exact va_Zof (hts _ (by decide +kernel)) (hts _ (by decide +kernel)) (va_eqi (hs _ (by decide +kernel))) hA
  · exact va_Zqof (hts _ (by decide +kernel)) (hts _ (by decide +kernel)) (hs _ (by decide +kernel)) hA
