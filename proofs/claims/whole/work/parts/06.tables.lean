/-! what the tables say of each class -/
def zcT (ci : Nat) : vw_C := zclasses.getD ci ("", TX0, 0)
def ztyf (ci : Nat) : Nat → FieldType := match ci with
  | 0 => tyX0 | 1 => tyX1 | 2 => tyX2 | 3 => tyX3 | 4 => tyX4 | 5 => tyX5 | 6 => tyX6 | 7 => tyX7 | 8 => tyX8 | 9 => tyX9 | _ => tyX10
def ztyk (ty : FieldType) : Nat := match ty with
  | .int => 0 | .boolean => 1 | .long => 2 | .object _ => 3 | .array _ => 3 | _ => 9
theorem zcT_get {ci : Nat} (h : ci < 11) : zclasses[ci]? = some (zcT ci) := by
  rw [zcT, List.getD_eq_getElem?_getD]
  cases hq : zclasses[ci]? with
  | some q => rfl
  | none => exact absurd h (by have := List.getElem?_eq_none_iff.mp hq; simp [zclasses] at this; omega)
theorem z_lt11 {P : Nat → Prop} (h : P 0 ∧ P 1 ∧ P 2 ∧ P 3 ∧ P 4 ∧ P 5 ∧ P 6 ∧ P 7 ∧ P 8 ∧ P 9 ∧ P 10) : ∀ ci, ci < 11 → P ci := by
  obtain ⟨h0, h1, h2, h3, h4, h5, h6, h7, h8, h9, h10⟩ := h
  intro ci hc
  match ci, hc with
  | 0, _ => exact h0 | 1, _ => exact h1 | 2, _ => exact h2 | 3, _ => exact h3 | 4, _ => exact h4 | 5, _ => exact h5 | 6, _ => exact h6 | 7, _ => exact h7 | 8, _ => exact h8 | 9, _ => exact h9 | 10, _ => exact h10
theorem zcl_ws : ∀ ci, ci < 11 → ∀ w ∈ u_ws (zcT ci).1 (zcT ci).2.1 (zcT ci).2.2, w ∈ lw_tbl ∧ zgw w = true :=
  z_lt11 (P := fun ci => ∀ w ∈ u_ws (zcT ci).1 (zcT ci).2.1 (zcT ci).2.2, w ∈ lw_tbl ∧ zgw w = true) ⟨by decide +kernel, by decide +kernel, by decide +kernel, by decide +kernel, by decide +kernel, by decide +kernel, by decide +kernel, by decide +kernel, by decide +kernel, by decide +kernel, by decide +kernel⟩
theorem zcl_nm : ∀ ci, ci < 11 → ∀ a, a < (zcT ci).2.2 → ∀ b, b < (zcT ci).2.2 → a ≠ b → ((zcT ci).2.1 a).2.1 ≠ ((zcT ci).2.1 b).2.1 :=
  z_lt11 (P := fun ci => ∀ a, a < (zcT ci).2.2 → ∀ b, b < (zcT ci).2.2 → a ≠ b → ((zcT ci).2.1 a).2.1 ≠ ((zcT ci).2.1 b).2.1) ⟨nmX0, nmX1, nmX2, nmX3, nmX4, nmX5, nmX6, nmX7, nmX8, nmX9, nmX10⟩
theorem zcl_ty : ∀ ci, ci < 11 → ∀ k, k < (zcT ci).2.2 → parseFieldDescriptor ((zcT ci).2.1 k).2.2.1 = some (ztyf ci k) :=
  z_lt11 (P := fun ci => ∀ k, k < (zcT ci).2.2 → parseFieldDescriptor ((zcT ci).2.1 k).2.2.1 = some (ztyf ci k)) ⟨tyX0_ok, tyX1_ok, tyX2_ok, tyX3_ok, tyX4_ok, tyX5_ok, tyX6_ok, tyX7_ok, tyX8_ok, tyX9_ok, tyX10_ok⟩
theorem zcl_kd : ∀ ci, ci < 11 → (zkds.getD ci []).length = (zcT ci).2.2 ∧ ∀ k, k < (zcT ci).2.2 → (zkds.getD ci []).getD k 9 = ztyk (ztyf ci k) ∧ ztyk (ztyf ci k) ≤ 3 := by decide +kernel
/-- a row of the fields' table: the word that links it lies in the tables -/
def zfchk (q : Nat × (Nat × Nat × Nat)) : Bool := match zlk zfpl q.1 with
  | some (nest, pl, fin) => decide (1 ≤ q.2.1 ∧ q.2.1 ≤ 11 ∧ q.2.2.1 < (zcT (q.2.1 - 1)).2.2 ∧ q.2.2.2 = ztyk (ztyf (q.2.1 - 1) q.2.2.1) ∧ ((zcT (q.2.1 - 1)).2.1 q.2.2.1).2.2.2 = fin ∧ ((zcT (q.2.1 - 1)).2.1 q.2.2.1).1 = (zcT (q.2.1 - 1)).1 ∧
      lw_tbl[pl]? = some (if nest then .fieldLinkNest (zowns.getD (q.1 / 10000) "") (q.1 % 10000) (zcT (q.2.1 - 1)).1 ((zcT (q.2.1 - 1)).2.1 q.2.2.1).2.1 ((zcT (q.2.1 - 1)).2.1 q.2.2.1).2.2.1 "StolenFinals" else .fieldLink (zowns.getD (q.1 / 10000) "") (q.1 % 10000) (zcT (q.2.1 - 1)).1 ((zcT (q.2.1 - 1)).2.1 q.2.2.1).2.1 ((zcT (q.2.1 - 1)).2.1 q.2.2.1).2.2.1))
  | none => decide (q.2.2.2 = 5 ∨ q.2.2.2 = 6)
theorem zfchk_all : ∀ q ∈ zfld, zfchk q = true := by decide +kernel
