/-! the constants at the entry -/
theorem zs_one {s : State} {len : List Nat} {byt : List (List Int32)} {adK adV : Nat → Nat} {A : Nat → Prop} (h : vk_S 1 len byt adK adV A s s.heap) : vk_S 1 len byt (fun _ => adK 0) (fun _ => adV 0) A s s.heap := ⟨fun i hi => by
  obtain rfl : i = 0 := by omega
  exact h.1 0 hi, fun i j hi hj _ => by omega⟩
theorem zs_0 {b : Nat} {s : State} {A : Nat → Prop} (hgv : (Jvm.Cond.and given_1 narrow_1).before #[Value.ref b] s = true) (hA : ∀ a : Nat, a < s.heap.size → ¬ A a) : ∃ k v : Nat, vk_S 1 [4] [[108, 101, 97, 100]] (fun _ => k) (fun _ => v) A s s.heap ∧ (Term.string "StolenFinals$ScriptReader" 80).eval #[Value.ref b] s none [] s = some (.ref k) := by
  have hs := flat_of_before _ hgv
  obtain ⟨adK, adV, h1, h2⟩ := vk_Sof (args := #[Value.ref b]) (s := s) (N := 1) (tm := fun _ => .string "StolenFinals$ScriptReader" 80) (len := [4]) (byt := [[108, 101, 97, 100]]) (A := A) (fun i hi => by obtain rfl : i = 0 := (by omega); decide) (fun i hi => hs _ (by decide +kernel)) (fun i hi => hs _ (by decide +kernel)) (fun i hi => hs _ (by decide +kernel)) (fun i hi => by obtain rfl : i = 0 := (by omega); exact hs _ (by decide +kernel)) (fun i hi j hj => by
    obtain rfl : i = 0 := by omega
    have hj : j < 4 := hj
    rcases (show j = 0 ∨ j = 1 ∨ j = 2 ∨ j = 3 by omega) with rfl | rfl | rfl | rfl <;> exact hs _ (by decide +kernel)) (fun i j hi hj hne => absurd (show i = j by omega) hne) hA
  exact ⟨adK 0, adV 0, zs_one h1, h2 0 (by decide)⟩
theorem zs_1 {b : Nat} {s : State} {A : Nat → Prop} (hgv : (Jvm.Cond.and given_1 narrow_1).before #[Value.ref b] s = true) (hA : ∀ a : Nat, a < s.heap.size → ¬ A a) : ∃ k v : Nat, vk_S 1 [4] [[98, 111, 116, 104]] (fun _ => k) (fun _ => v) A s s.heap ∧ (Term.string "StolenFinals$ScriptReader" 86).eval #[Value.ref b] s none [] s = some (.ref k) := by
  have hs := flat_of_before _ hgv
  obtain ⟨adK, adV, h1, h2⟩ := vk_Sof (args := #[Value.ref b]) (s := s) (N := 1) (tm := fun _ => .string "StolenFinals$ScriptReader" 86) (len := [4]) (byt := [[98, 111, 116, 104]]) (A := A) (fun i hi => by obtain rfl : i = 0 := (by omega); decide) (fun i hi => hs _ (by decide +kernel)) (fun i hi => hs _ (by decide +kernel)) (fun i hi => hs _ (by decide +kernel)) (fun i hi => by obtain rfl : i = 0 := (by omega); exact hs _ (by decide +kernel)) (fun i hi j hj => by
    obtain rfl : i = 0 := by omega
    have hj : j < 4 := hj
    rcases (show j = 0 ∨ j = 1 ∨ j = 2 ∨ j = 3 by omega) with rfl | rfl | rfl | rfl <;> exact hs _ (by decide +kernel)) (fun i j hi hj hne => absurd (show i = j by omega) hne) hA
  exact ⟨adK 0, adV 0, zs_one h1, h2 0 (by decide)⟩
theorem zs_2 {b : Nat} {s : State} {A : Nat → Prop} (hgv : (Jvm.Cond.and given_1 narrow_1).before #[Value.ref b] s = true) (hA : ∀ a : Nat, a < s.heap.size → ¬ A a) : ∃ k v : Nat, vk_S 1 [5] [[102, 105, 110, 97, 108]] (fun _ => k) (fun _ => v) A s s.heap ∧ (Term.string "StolenFinals$ScriptReader" 88).eval #[Value.ref b] s none [] s = some (.ref k) := by
  have hs := flat_of_before _ hgv
  obtain ⟨adK, adV, h1, h2⟩ := vk_Sof (args := #[Value.ref b]) (s := s) (N := 1) (tm := fun _ => .string "StolenFinals$ScriptReader" 88) (len := [5]) (byt := [[102, 105, 110, 97, 108]]) (A := A) (fun i hi => by obtain rfl : i = 0 := (by omega); decide) (fun i hi => hs _ (by decide +kernel)) (fun i hi => hs _ (by decide +kernel)) (fun i hi => hs _ (by decide +kernel)) (fun i hi => by obtain rfl : i = 0 := (by omega); exact hs _ (by decide +kernel)) (fun i hi j hj => by
    obtain rfl : i = 0 := by omega
    have hj : j < 5 := hj
    rcases (show j = 0 ∨ j = 1 ∨ j = 2 ∨ j = 3 ∨ j = 4 by omega) with rfl | rfl | rfl | rfl | rfl <;> exact hs _ (by decide +kernel)) (fun i j hi hj hne => absurd (show i = j by omega) hne) hA
  exact ⟨adK 0, adV 0, zs_one h1, h2 0 (by decide)⟩
theorem zs_3 {b : Nat} {s : State} {A : Nat → Prop} (hgv : (Jvm.Cond.and given_1 narrow_1).before #[Value.ref b] s = true) (hA : ∀ a : Nat, a < s.heap.size → ¬ A a) : ∃ k v : Nat, vk_S 1 [5] [[118, 111, 119, 101, 108]] (fun _ => k) (fun _ => v) A s s.heap ∧ (Term.string "StolenFinals$ScriptReader" 90).eval #[Value.ref b] s none [] s = some (.ref k) := by
  have hs := flat_of_before _ hgv
  obtain ⟨adK, adV, h1, h2⟩ := vk_Sof (args := #[Value.ref b]) (s := s) (N := 1) (tm := fun _ => .string "StolenFinals$ScriptReader" 90) (len := [5]) (byt := [[118, 111, 119, 101, 108]]) (A := A) (fun i hi => by obtain rfl : i = 0 := (by omega); decide) (fun i hi => hs _ (by decide +kernel)) (fun i hi => hs _ (by decide +kernel)) (fun i hi => hs _ (by decide +kernel)) (fun i hi => by obtain rfl : i = 0 := (by omega); exact hs _ (by decide +kernel)) (fun i hi j hj => by
    obtain rfl : i = 0 := by omega
    have hj : j < 5 := hj
    rcases (show j = 0 ∨ j = 1 ∨ j = 2 ∨ j = 3 ∨ j = 4 by omega) with rfl | rfl | rfl | rfl | rfl <;> exact hs _ (by decide +kernel)) (fun i j hi hj hne => absurd (show i = j by omega) hne) hA
  exact ⟨adK 0, adV 0, zs_one h1, h2 0 (by decide)⟩
theorem zs_4 {b : Nat} {s : State} {A : Nat → Prop} (hgv : (Jvm.Cond.and given_1 narrow_1).before #[Value.ref b] s = true) (hA : ∀ a : Nat, a < s.heap.size → ¬ A a) : ∃ k v : Nat, vk_S 1 [3] [[111, 108, 100]] (fun _ => k) (fun _ => v) A s s.heap ∧ (Term.string "StolenFinals$ScriptReader" 92).eval #[Value.ref b] s none [] s = some (.ref k) := by
  have hs := flat_of_before _ hgv
  obtain ⟨adK, adV, h1, h2⟩ := vk_Sof (args := #[Value.ref b]) (s := s) (N := 1) (tm := fun _ => .string "StolenFinals$ScriptReader" 92) (len := [3]) (byt := [[111, 108, 100]]) (A := A) (fun i hi => by obtain rfl : i = 0 := (by omega); decide) (fun i hi => hs _ (by decide +kernel)) (fun i hi => hs _ (by decide +kernel)) (fun i hi => hs _ (by decide +kernel)) (fun i hi => by obtain rfl : i = 0 := (by omega); exact hs _ (by decide +kernel)) (fun i hi j hj => by
    obtain rfl : i = 0 := by omega
    have hj : j < 3 := hj
    rcases (show j = 0 ∨ j = 1 ∨ j = 2 by omega) with rfl | rfl | rfl <;> exact hs _ (by decide +kernel)) (fun i j hi hj hne => absurd (show i = j by omega) hne) hA
  exact ⟨adK 0, adV 0, zs_one h1, h2 0 (by decide)⟩
theorem zs_5 {b : Nat} {s : State} {A : Nat → Prop} (hgv : (Jvm.Cond.and given_1 narrow_1).before #[Value.ref b] s = true) (hA : ∀ a : Nat, a < s.heap.size → ¬ A a) : ∃ k v : Nat, vk_S 1 [4] [[116, 119, 105, 110]] (fun _ => k) (fun _ => v) A s s.heap ∧ (Term.string "StolenFinals$ScriptReader" 94).eval #[Value.ref b] s none [] s = some (.ref k) := by
  have hs := flat_of_before _ hgv
  obtain ⟨adK, adV, h1, h2⟩ := vk_Sof (args := #[Value.ref b]) (s := s) (N := 1) (tm := fun _ => .string "StolenFinals$ScriptReader" 94) (len := [4]) (byt := [[116, 119, 105, 110]]) (A := A) (fun i hi => by obtain rfl : i = 0 := (by omega); decide) (fun i hi => hs _ (by decide +kernel)) (fun i hi => hs _ (by decide +kernel)) (fun i hi => hs _ (by decide +kernel)) (fun i hi => by obtain rfl : i = 0 := (by omega); exact hs _ (by decide +kernel)) (fun i hi j hj => by
    obtain rfl : i = 0 := by omega
    have hj : j < 4 := hj
    rcases (show j = 0 ∨ j = 1 ∨ j = 2 ∨ j = 3 by omega) with rfl | rfl | rfl | rfl <;> exact hs _ (by decide +kernel)) (fun i j hi hj hne => absurd (show i = j by omega) hne) hA
  exact ⟨adK 0, adV 0, zs_one h1, h2 0 (by decide)⟩
theorem zs_6 {b : Nat} {s : State} {A : Nat → Prop} (hgv : (Jvm.Cond.and given_1 narrow_1).before #[Value.ref b] s = true) (hA : ∀ a : Nat, a < s.heap.size → ¬ A a) : ∃ k v : Nat, vk_S 1 [4] [[112, 97, 105, 114]] (fun _ => k) (fun _ => v) A s s.heap ∧ (Term.string "StolenFinals$ScriptReader" 96).eval #[Value.ref b] s none [] s = some (.ref k) := by
  have hs := flat_of_before _ hgv
  obtain ⟨adK, adV, h1, h2⟩ := vk_Sof (args := #[Value.ref b]) (s := s) (N := 1) (tm := fun _ => .string "StolenFinals$ScriptReader" 96) (len := [4]) (byt := [[112, 97, 105, 114]]) (A := A) (fun i hi => by obtain rfl : i = 0 := (by omega); decide) (fun i hi => hs _ (by decide +kernel)) (fun i hi => hs _ (by decide +kernel)) (fun i hi => hs _ (by decide +kernel)) (fun i hi => by obtain rfl : i = 0 := (by omega); exact hs _ (by decide +kernel)) (fun i hi j hj => by
    obtain rfl : i = 0 := by omega
    have hj : j < 4 := hj
    rcases (show j = 0 ∨ j = 1 ∨ j = 2 ∨ j = 3 by omega) with rfl | rfl | rfl | rfl <;> exact hs _ (by decide +kernel)) (fun i j hi hj hne => absurd (show i = j by omega) hne) hA
  exact ⟨adK 0, adV 0, zs_one h1, h2 0 (by decide)⟩
theorem zs_7 {b : Nat} {s : State} {A : Nat → Prop} (hgv : (Jvm.Cond.and given_1 narrow_1).before #[Value.ref b] s = true) (hA : ∀ a : Nat, a < s.heap.size → ¬ A a) : ∃ k v : Nat, vk_S 1 [4] [[108, 101, 97, 100]] (fun _ => k) (fun _ => v) A s s.heap ∧ (Term.string "StolenFinalsModel" 198).eval #[Value.ref b] s none [] s = some (.ref k) := by
  have hs := flat_of_before _ hgv
  obtain ⟨adK, adV, h1, h2⟩ := vk_Sof (args := #[Value.ref b]) (s := s) (N := 1) (tm := fun _ => .string "StolenFinalsModel" 198) (len := [4]) (byt := [[108, 101, 97, 100]]) (A := A) (fun i hi => by obtain rfl : i = 0 := (by omega); decide) (fun i hi => hs _ (by decide +kernel)) (fun i hi => hs _ (by decide +kernel)) (fun i hi => hs _ (by decide +kernel)) (fun i hi => by obtain rfl : i = 0 := (by omega); exact hs _ (by decide +kernel)) (fun i hi j hj => by
    obtain rfl : i = 0 := by omega
    have hj : j < 4 := hj
    rcases (show j = 0 ∨ j = 1 ∨ j = 2 ∨ j = 3 by omega) with rfl | rfl | rfl | rfl <;> exact hs _ (by decide +kernel)) (fun i j hi hj hne => absurd (show i = j by omega) hne) hA
  exact ⟨adK 0, adV 0, zs_one h1, h2 0 (by decide)⟩
theorem zs_8 {b : Nat} {s : State} {A : Nat → Prop} (hgv : (Jvm.Cond.and given_1 narrow_1).before #[Value.ref b] s = true) (hA : ∀ a : Nat, a < s.heap.size → ¬ A a) : ∃ k v : Nat, vk_S 1 [4] [[98, 111, 116, 104]] (fun _ => k) (fun _ => v) A s s.heap ∧ (Term.string "StolenFinalsModel" 207).eval #[Value.ref b] s none [] s = some (.ref k) := by
  have hs := flat_of_before _ hgv
  obtain ⟨adK, adV, h1, h2⟩ := vk_Sof (args := #[Value.ref b]) (s := s) (N := 1) (tm := fun _ => .string "StolenFinalsModel" 207) (len := [4]) (byt := [[98, 111, 116, 104]]) (A := A) (fun i hi => by obtain rfl : i = 0 := (by omega); decide) (fun i hi => hs _ (by decide +kernel)) (fun i hi => hs _ (by decide +kernel)) (fun i hi => hs _ (by decide +kernel)) (fun i hi => by obtain rfl : i = 0 := (by omega); exact hs _ (by decide +kernel)) (fun i hi j hj => by
    obtain rfl : i = 0 := by omega
    have hj : j < 4 := hj
    rcases (show j = 0 ∨ j = 1 ∨ j = 2 ∨ j = 3 by omega) with rfl | rfl | rfl | rfl <;> exact hs _ (by decide +kernel)) (fun i j hi hj hne => absurd (show i = j by omega) hne) hA
  exact ⟨adK 0, adV 0, zs_one h1, h2 0 (by decide)⟩
theorem zs_9 {b : Nat} {s : State} {A : Nat → Prop} (hgv : (Jvm.Cond.and given_1 narrow_1).before #[Value.ref b] s = true) (hA : ∀ a : Nat, a < s.heap.size → ¬ A a) : ∃ k v : Nat, vk_S 1 [5] [[102, 105, 110, 97, 108]] (fun _ => k) (fun _ => v) A s s.heap ∧ (Term.string "StolenFinalsModel" 209).eval #[Value.ref b] s none [] s = some (.ref k) := by
  have hs := flat_of_before _ hgv
  obtain ⟨adK, adV, h1, h2⟩ := vk_Sof (args := #[Value.ref b]) (s := s) (N := 1) (tm := fun _ => .string "StolenFinalsModel" 209) (len := [5]) (byt := [[102, 105, 110, 97, 108]]) (A := A) (fun i hi => by obtain rfl : i = 0 := (by omega); decide) (fun i hi => hs _ (by decide +kernel)) (fun i hi => hs _ (by decide +kernel)) (fun i hi => hs _ (by decide +kernel)) (fun i hi => by obtain rfl : i = 0 := (by omega); exact hs _ (by decide +kernel)) (fun i hi j hj => by
    obtain rfl : i = 0 := by omega
    have hj : j < 5 := hj
    rcases (show j = 0 ∨ j = 1 ∨ j = 2 ∨ j = 3 ∨ j = 4 by omega) with rfl | rfl | rfl | rfl | rfl <;> exact hs _ (by decide +kernel)) (fun i j hi hj hne => absurd (show i = j by omega) hne) hA
  exact ⟨adK 0, adV 0, zs_one h1, h2 0 (by decide)⟩
theorem zs_10 {b : Nat} {s : State} {A : Nat → Prop} (hgv : (Jvm.Cond.and given_1 narrow_1).before #[Value.ref b] s = true) (hA : ∀ a : Nat, a < s.heap.size → ¬ A a) : ∃ k v : Nat, vk_S 1 [5] [[118, 111, 119, 101, 108]] (fun _ => k) (fun _ => v) A s s.heap ∧ (Term.string "StolenFinalsModel" 211).eval #[Value.ref b] s none [] s = some (.ref k) := by
  have hs := flat_of_before _ hgv
  obtain ⟨adK, adV, h1, h2⟩ := vk_Sof (args := #[Value.ref b]) (s := s) (N := 1) (tm := fun _ => .string "StolenFinalsModel" 211) (len := [5]) (byt := [[118, 111, 119, 101, 108]]) (A := A) (fun i hi => by obtain rfl : i = 0 := (by omega); decide) (fun i hi => hs _ (by decide +kernel)) (fun i hi => hs _ (by decide +kernel)) (fun i hi => hs _ (by decide +kernel)) (fun i hi => by obtain rfl : i = 0 := (by omega); exact hs _ (by decide +kernel)) (fun i hi j hj => by
    obtain rfl : i = 0 := by omega
    have hj : j < 5 := hj
    rcases (show j = 0 ∨ j = 1 ∨ j = 2 ∨ j = 3 ∨ j = 4 by omega) with rfl | rfl | rfl | rfl | rfl <;> exact hs _ (by decide +kernel)) (fun i j hi hj hne => absurd (show i = j by omega) hne) hA
  exact ⟨adK 0, adV 0, zs_one h1, h2 0 (by decide)⟩
theorem zs_11 {b : Nat} {s : State} {A : Nat → Prop} (hgv : (Jvm.Cond.and given_1 narrow_1).before #[Value.ref b] s = true) (hA : ∀ a : Nat, a < s.heap.size → ¬ A a) : ∃ k v : Nat, vk_S 1 [3] [[111, 108, 100]] (fun _ => k) (fun _ => v) A s s.heap ∧ (Term.string "StolenFinalsModel" 212).eval #[Value.ref b] s none [] s = some (.ref k) := by
  have hs := flat_of_before _ hgv
  obtain ⟨adK, adV, h1, h2⟩ := vk_Sof (args := #[Value.ref b]) (s := s) (N := 1) (tm := fun _ => .string "StolenFinalsModel" 212) (len := [3]) (byt := [[111, 108, 100]]) (A := A) (fun i hi => by obtain rfl : i = 0 := (by omega); decide) (fun i hi => hs _ (by decide +kernel)) (fun i hi => hs _ (by decide +kernel)) (fun i hi => hs _ (by decide +kernel)) (fun i hi => by obtain rfl : i = 0 := (by omega); exact hs _ (by decide +kernel)) (fun i hi j hj => by
    obtain rfl : i = 0 := by omega
    have hj : j < 3 := hj
    rcases (show j = 0 ∨ j = 1 ∨ j = 2 by omega) with rfl | rfl | rfl <;> exact hs _ (by decide +kernel)) (fun i j hi hj hne => absurd (show i = j by omega) hne) hA
  exact ⟨adK 0, adV 0, zs_one h1, h2 0 (by decide)⟩
theorem zs_12 {b : Nat} {s : State} {A : Nat → Prop} (hgv : (Jvm.Cond.and given_1 narrow_1).before #[Value.ref b] s = true) (hA : ∀ a : Nat, a < s.heap.size → ¬ A a) : ∃ k v : Nat, vk_S 1 [4] [[116, 119, 105, 110]] (fun _ => k) (fun _ => v) A s s.heap ∧ (Term.string "StolenFinalsModel" 213).eval #[Value.ref b] s none [] s = some (.ref k) := by
  have hs := flat_of_before _ hgv
  obtain ⟨adK, adV, h1, h2⟩ := vk_Sof (args := #[Value.ref b]) (s := s) (N := 1) (tm := fun _ => .string "StolenFinalsModel" 213) (len := [4]) (byt := [[116, 119, 105, 110]]) (A := A) (fun i hi => by obtain rfl : i = 0 := (by omega); decide) (fun i hi => hs _ (by decide +kernel)) (fun i hi => hs _ (by decide +kernel)) (fun i hi => hs _ (by decide +kernel)) (fun i hi => by obtain rfl : i = 0 := (by omega); exact hs _ (by decide +kernel)) (fun i hi j hj => by
    obtain rfl : i = 0 := by omega
    have hj : j < 4 := hj
    rcases (show j = 0 ∨ j = 1 ∨ j = 2 ∨ j = 3 by omega) with rfl | rfl | rfl | rfl <;> exact hs _ (by decide +kernel)) (fun i j hi hj hne => absurd (show i = j by omega) hne) hA
  exact ⟨adK 0, adV 0, zs_one h1, h2 0 (by decide)⟩
theorem zs_13 {b : Nat} {s : State} {A : Nat → Prop} (hgv : (Jvm.Cond.and given_1 narrow_1).before #[Value.ref b] s = true) (hA : ∀ a : Nat, a < s.heap.size → ¬ A a) : ∃ k v : Nat, vk_S 1 [4] [[112, 97, 105, 114]] (fun _ => k) (fun _ => v) A s s.heap ∧ (Term.string "StolenFinalsModel" 217).eval #[Value.ref b] s none [] s = some (.ref k) := by
  have hs := flat_of_before _ hgv
  obtain ⟨adK, adV, h1, h2⟩ := vk_Sof (args := #[Value.ref b]) (s := s) (N := 1) (tm := fun _ => .string "StolenFinalsModel" 217) (len := [4]) (byt := [[112, 97, 105, 114]]) (A := A) (fun i hi => by obtain rfl : i = 0 := (by omega); decide) (fun i hi => hs _ (by decide +kernel)) (fun i hi => hs _ (by decide +kernel)) (fun i hi => hs _ (by decide +kernel)) (fun i hi => by obtain rfl : i = 0 := (by omega); exact hs _ (by decide +kernel)) (fun i hi j hj => by
    obtain rfl : i = 0 := by omega
    have hj : j < 4 := hj
    rcases (show j = 0 ∨ j = 1 ∨ j = 2 ∨ j = 3 by omega) with rfl | rfl | rfl | rfl <;> exact hs _ (by decide +kernel)) (fun i j hi hj hne => absurd (show i = j by omega) hne) hA
  exact ⟨adK 0, adV 0, zs_one h1, h2 0 (by decide)⟩
theorem zs_all {b : Nat} {s : State} (hgv : (Jvm.Cond.and given_1 narrow_1).before #[Value.ref b] s = true) (hts : ∀ w ∈ lw_tbl, w.before #[Value.ref b] s = true) : ∃ adK adV : Nat → Nat, (∀ i : Nat, i < 14 → vk_S 1 [zslen.getD i 0] [zsbyt.getD i []] (fun _ => adK i) (fun _ => adV i) (fun q => s.heap.size ≤ q) s s.heap) ∧ ∀ k q, zstx[k]? = some q → vk_R q.1 q.2.1 q.2.2 (adK k) s := by
  have hA : ∀ a : Nat, a < s.heap.size → ¬ (fun q : Nat => s.heap.size ≤ q) a := fun a h => Nat.not_le.mpr h
  obtain ⟨k0, v0, a0, b0⟩ := zs_0 hgv hA
  obtain ⟨k1, v1, a1, b1⟩ := zs_1 hgv hA
  obtain ⟨k2, v2, a2, b2⟩ := zs_2 hgv hA
  obtain ⟨k3, v3, a3, b3⟩ := zs_3 hgv hA
  obtain ⟨k4, v4, a4, b4⟩ := zs_4 hgv hA
  obtain ⟨k5, v5, a5, b5⟩ := zs_5 hgv hA
  obtain ⟨k6, v6, a6, b6⟩ := zs_6 hgv hA
  obtain ⟨k7, v7, a7, b7⟩ := zs_7 hgv hA
  obtain ⟨k8, v8, a8, b8⟩ := zs_8 hgv hA
  obtain ⟨k9, v9, a9, b9⟩ := zs_9 hgv hA
  obtain ⟨k10, v10, a10, b10⟩ := zs_10 hgv hA
  obtain ⟨k11, v11, a11, b11⟩ := zs_11 hgv hA
  obtain ⟨k12, v12, a12, b12⟩ := zs_12 hgv hA
  obtain ⟨k13, v13, a13, b13⟩ := zs_13 hgv hA
  refine ⟨fun i => [k0, k1, k2, k3, k4, k5, k6, k7, k8, k9, k10, k11, k12, k13].getD i 0, fun i => [v0, v1, v2, v3, v4, v5, v6, v7, v8, v9, v10, v11, v12, v13].getD i 0, fun i hi => ?_, fun k q hq => ?_⟩
  · match i, hi with
    | 0, _ => exact a0
    | 1, _ => exact a1
    | 2, _ => exact a2
    | 3, _ => exact a3
    | 4, _ => exact a4
    | 5, _ => exact a5
    | 6, _ => exact a6
    | 7, _ => exact a7
    | 8, _ => exact a8
    | 9, _ => exact a9
    | 10, _ => exact a10
    | 11, _ => exact a11
    | 12, _ => exact a12
    | 13, _ => exact a13
    | i + 14, hi => omega
  · match k, hq with
    | 0, hq => cases hq; exact vk_R.of (hts _ (by decide +kernel)) b0
    | 1, hq => cases hq; exact vk_R.of (hts _ (by decide +kernel)) b1
    | 2, hq => cases hq; exact vk_R.of (hts _ (by decide +kernel)) b2
    | 3, hq => cases hq; exact vk_R.of (hts _ (by decide +kernel)) b3
    | 4, hq => cases hq; exact vk_R.of (hts _ (by decide +kernel)) b4
    | 5, hq => cases hq; exact vk_R.of (hts _ (by decide +kernel)) b5
    | 6, hq => cases hq; exact vk_R.of (hts _ (by decide +kernel)) b6
    | 7, hq => cases hq; exact vk_R.of (hts _ (by decide +kernel)) b7
    | 8, hq => cases hq; exact vk_R.of (hts _ (by decide +kernel)) b8
    | 9, hq => cases hq; exact vk_R.of (hts _ (by decide +kernel)) b9
    | 10, hq => cases hq; exact vk_R.of (hts _ (by decide +kernel)) b10
    | 11, hq => cases hq; exact vk_R.of (hts _ (by decide +kernel)) b11
    | 12, hq => cases hq; exact vk_R.of (hts _ (by decide +kernel)) b12
    | 13, hq => cases hq; exact vk_R.of (hts _ (by decide +kernel)) b13
    | k + 14, hq => cases hq
theorem zk_cls {b : Nat} {s : State} (hts : ∀ w ∈ lw_tbl, w.before #[Value.ref b] s = true) : ∃ D : va_G, va_K D zclasses [] s := by
  obtain ⟨c0, i0, h0⟩ := u_known (C := RX0) (T := TX0) (N := 5) (n := 5) hts (by decide +kernel) (hts (.instantiable RX0 5) (by decide +kernel))
  obtain ⟨c1, i1, h1⟩ := u_known (C := RX1) (T := TX1) (N := 2) (n := 2) hts (by decide +kernel) (hts (.instantiable RX1 2) (by decide +kernel))
  obtain ⟨c2, i2, h2⟩ := u_known (C := RX2) (T := TX2) (N := 5) (n := 5) hts (by decide +kernel) (hts (.instantiable RX2 5) (by decide +kernel))
  obtain ⟨c3, i3, h3⟩ := u_known (C := RX3) (T := TX3) (N := 13) (n := 13) hts (by decide +kernel) (hts (.instantiable RX3 13) (by decide +kernel))
  obtain ⟨c4, i4, h4⟩ := u_known (C := RX4) (T := TX4) (N := 4) (n := 4) hts (by decide +kernel) (hts (.instantiable RX4 4) (by decide +kernel))
  obtain ⟨c5, i5, h5⟩ := u_known (C := RX5) (T := TX5) (N := 10) (n := 10) hts (by decide +kernel) (hts (.instantiable RX5 10) (by decide +kernel))
  obtain ⟨c6, i6, h6⟩ := u_known (C := RX6) (T := TX6) (N := 6) (n := 6) hts (by decide +kernel) (hts (.instantiable RX6 6) (by decide +kernel))
  obtain ⟨c7, i7, h7⟩ := u_known (C := RX7) (T := TX7) (N := 8) (n := 8) hts (by decide +kernel) (hts (.instantiable RX7 8) (by decide +kernel))
  obtain ⟨c8, i8, h8⟩ := u_known (C := RX8) (T := TX8) (N := 2) (n := 2) hts (by decide +kernel) (hts (.instantiable RX8 2) (by decide +kernel))
  obtain ⟨c9, i9, h9⟩ := u_known (C := RX9) (T := TX9) (N := 15) (n := 15) hts (by decide +kernel) (hts (.instantiable RX9 15) (by decide +kernel))
  obtain ⟨c10, i10, h10⟩ := u_known (C := RX10) (T := TX10) (N := 63) (n := 63) hts (by decide +kernel) (hts (.instantiable RX10 63) (by decide +kernel))
  refine ⟨(fun k => [c0, c1, c2, c3, c4, c5, c6, c7, c8, c9, c10].getD k c0, fun k => [i0, i1, i2, i3, i4, i5, i6, i7, i8, i9, i10].getD k i0), fun k q hq => ?_, fun k q h => by cases h⟩
  match k, hq with
  | 0, hq => cases hq; exact h0
  | 1, hq => cases hq; exact h1
  | 2, hq => cases hq; exact h2
  | 3, hq => cases hq; exact h3
  | 4, hq => cases hq; exact h4
  | 5, hq => cases hq; exact h5
  | 6, hq => cases hq; exact h6
  | 7, hq => cases hq; exact h7
  | 8, hq => cases hq; exact h8
  | 9, hq => cases hq; exact h9
  | 10, hq => cases hq; exact h10
  | k + 11, hq => cases hq
