/-- a row of the calls' table: the word that links it lies in the tables -/
def zcchk (q : Nat × (Nat × Nat × Nat)) : Bool := match zlk zcpl q.1 with
  | some (nest, pl) => decide ((q.2.2.2 = 3 ∧ nest = false ∧ lw_tbl[pl]? = some (.methodLink (zowns.getD (q.1 / 10000) "") (q.1 % 10000) objectInit)) ∨ (q.2.2.2 = 6 ∧ nest = false ∧ lw_tbl[pl]? = some (.methodLink (zowns.getD (q.1 / 10000) "") (q.1 % 10000) Lib.Math.min.name)) ∨ (q.2.2.2 = 5 ∧ nest = false ∧ q.2.2.1 = 4 ∧ lw_tbl[pl]? = some (.methodLink (zowns.getD (q.1 / 10000) "") (q.1 % 10000) yL_told)) ∨
     (q.2.2.2 ≠ 3 ∧ q.2.2.2 ≠ 5 ∧ q.2.2.2 ≠ 6 ∧ q.2.1 < 268 ∧ q.2.1 ≠ 258 ∧ lw_tbl[pl]? = some (if nest then .methodLinkNest (zowns.getD (q.1 / 10000) "") (q.1 % 10000) (zmd q.2.1).1 "StolenFinals" else .methodLink (zowns.getD (q.1 / 10000) "") (q.1 % 10000) (zmd q.2.1).1) ∧
       (parseMethodDescriptor (zmd q.2.1).1.desc).map (fun d => d.parameters.length) = some (if q.2.2.2 = 1 then q.2.2.1 else q.2.2.1 - 1) ∧ (q.2.2.2 ≠ 1 → 1 ≤ q.2.2.1) ∧
       (zmpl.getD q.2.1 (9, 0, 0, 0, 0)).1 = (if q.2.2.2 = 4 then 0 else q.2.2.2) ∧ (q.2.2.2 = 4 → (zmd q.2.1).1.cls = "java/lang/String") ∧ (q.2.2.2 = 0 → zcl q.2.1 < 11 ∧ (zmd q.2.1).1.cls = (zcT (zcl q.2.1)).1)))
  | none => false
theorem zcq_0 : ∀ j, j < 20 → zcchk (zcal.getD (0 + j) (0, 0, 0, 0)) = true := by decide +kernel
theorem zcq_20 : ∀ j, j < 20 → zcchk (zcal.getD (20 + j) (0, 0, 0, 0)) = true := by decide +kernel
theorem zcq_40 : ∀ j, j < 20 → zcchk (zcal.getD (40 + j) (0, 0, 0, 0)) = true := by decide +kernel
theorem zcq_60 : ∀ j, j < 20 → zcchk (zcal.getD (60 + j) (0, 0, 0, 0)) = true := by decide +kernel
theorem zcq_80 : ∀ j, j < 20 → zcchk (zcal.getD (80 + j) (0, 0, 0, 0)) = true := by decide +kernel
theorem zcq_100 : ∀ j, j < 20 → zcchk (zcal.getD (100 + j) (0, 0, 0, 0)) = true := by decide +kernel
theorem zcq_120 : ∀ j, j < 20 → zcchk (zcal.getD (120 + j) (0, 0, 0, 0)) = true := by decide +kernel
theorem zcq_140 : ∀ j, j < 20 → zcchk (zcal.getD (140 + j) (0, 0, 0, 0)) = true := by decide +kernel
theorem zcq_160 : ∀ j, j < 20 → zcchk (zcal.getD (160 + j) (0, 0, 0, 0)) = true := by decide +kernel
theorem zcq_180 : ∀ j, j < 20 → zcchk (zcal.getD (180 + j) (0, 0, 0, 0)) = true := by decide +kernel
theorem zcq_200 : ∀ j, j < 20 → zcchk (zcal.getD (200 + j) (0, 0, 0, 0)) = true := by decide +kernel
theorem zcq_220 : ∀ j, j < 20 → zcchk (zcal.getD (220 + j) (0, 0, 0, 0)) = true := by decide +kernel
theorem zcq_240 : ∀ j, j < 20 → zcchk (zcal.getD (240 + j) (0, 0, 0, 0)) = true := by decide +kernel
theorem zcq_260 : ∀ j, j < 20 → zcchk (zcal.getD (260 + j) (0, 0, 0, 0)) = true := by decide +kernel
theorem zcq_280 : ∀ j, j < 20 → zcchk (zcal.getD (280 + j) (0, 0, 0, 0)) = true := by decide +kernel
theorem zcq_300 : ∀ j, j < 20 → zcchk (zcal.getD (300 + j) (0, 0, 0, 0)) = true := by decide +kernel
theorem zcq_320 : ∀ j, j < 2 → zcchk (zcal.getD (320 + j) (0, 0, 0, 0)) = true := by decide +kernel
theorem zcq_all : ∀ i, i < 322 → zcchk (zcal.getD i (0, 0, 0, 0)) = true := by
  intro i h
  by_cases h0 : i < 20
  · obtain ⟨j, rfl⟩ : ∃ j, i = 0 + j := ⟨i - 0, by omega⟩
    exact zcq_0 j (by omega)
  by_cases h20 : i < 40
  · obtain ⟨j, rfl⟩ : ∃ j, i = 20 + j := ⟨i - 20, by omega⟩
    exact zcq_20 j (by omega)
  by_cases h40 : i < 60
  · obtain ⟨j, rfl⟩ : ∃ j, i = 40 + j := ⟨i - 40, by omega⟩
    exact zcq_40 j (by omega)
  by_cases h60 : i < 80
  · obtain ⟨j, rfl⟩ : ∃ j, i = 60 + j := ⟨i - 60, by omega⟩
    exact zcq_60 j (by omega)
  by_cases h80 : i < 100
  · obtain ⟨j, rfl⟩ : ∃ j, i = 80 + j := ⟨i - 80, by omega⟩
    exact zcq_80 j (by omega)
  by_cases h100 : i < 120
  · obtain ⟨j, rfl⟩ : ∃ j, i = 100 + j := ⟨i - 100, by omega⟩
    exact zcq_100 j (by omega)
  by_cases h120 : i < 140
  · obtain ⟨j, rfl⟩ : ∃ j, i = 120 + j := ⟨i - 120, by omega⟩
    exact zcq_120 j (by omega)
  by_cases h140 : i < 160
  · obtain ⟨j, rfl⟩ : ∃ j, i = 140 + j := ⟨i - 140, by omega⟩
    exact zcq_140 j (by omega)
  by_cases h160 : i < 180
  · obtain ⟨j, rfl⟩ : ∃ j, i = 160 + j := ⟨i - 160, by omega⟩
    exact zcq_160 j (by omega)
  by_cases h180 : i < 200
  · obtain ⟨j, rfl⟩ : ∃ j, i = 180 + j := ⟨i - 180, by omega⟩
    exact zcq_180 j (by omega)
  by_cases h200 : i < 220
  · obtain ⟨j, rfl⟩ : ∃ j, i = 200 + j := ⟨i - 200, by omega⟩
    exact zcq_200 j (by omega)
  by_cases h220 : i < 240
  · obtain ⟨j, rfl⟩ : ∃ j, i = 220 + j := ⟨i - 220, by omega⟩
    exact zcq_220 j (by omega)
  by_cases h240 : i < 260
  · obtain ⟨j, rfl⟩ : ∃ j, i = 240 + j := ⟨i - 240, by omega⟩
    exact zcq_240 j (by omega)
  by_cases h260 : i < 280
  · obtain ⟨j, rfl⟩ : ∃ j, i = 260 + j := ⟨i - 260, by omega⟩
    exact zcq_260 j (by omega)
  by_cases h280 : i < 300
  · obtain ⟨j, rfl⟩ : ∃ j, i = 280 + j := ⟨i - 280, by omega⟩
    exact zcq_280 j (by omega)
  by_cases h300 : i < 320
  · obtain ⟨j, rfl⟩ : ∃ j, i = 300 + j := ⟨i - 300, by omega⟩
    exact zcq_300 j (by omega)
  by_cases h320 : i < 322
  · obtain ⟨j, rfl⟩ : ∃ j, i = 320 + j := ⟨i - 320, by omega⟩
    exact zcq_320 j (by omega)
  exact absurd h (by omega)
theorem zcal_len : zcal.length = 322 := by decide +kernel
theorem zcchk_all : ∀ q ∈ zcal, zcchk q = true := by
  intro q hq
  obtain ⟨i, hi, rfl⟩ := List.getElem_of_mem hq
  have h := zcq_all i (by rw [← zcal_len]; exact hi)
  rw [List.getD_eq_getElem?_getD, List.getElem?_eq_getElem hi] at h
  exact h
/-- what the tables say of a method -/
def zmchk (mi : Nat) : Bool := match zmpl.getD mi (9, 0, 0, 0, 0) with
  | (kd, p1, p2, p3, p4) => decide (lw_tbl[p1]? = some (if kd = 1 then .static (zmd mi).1 else .instanceMethod (zmd mi).1) ∧ (kd = 0 → lw_tbl[p2]? = some (.selects (zmd mi).1.cls (zmd mi).1 (zmd mi).1)) ∧ lw_tbl[p3]? = some (.initialized (zmd mi).1.cls) ∧ lw_tbl[p4]? = some (.code (zmd mi).1 (zmd mi).2.1 (zmx mi) (zmd mi).2.2) ∧
      plainName (zmd mi).1.cls = true ∧ (zmd mi).1.cls ≠ "java/lang/invoke/MethodHandle" ∧ (zmd mi).1.cls ≠ "java/lang/invoke/VarHandle" ∧ zown mi = (zmd mi).1.cls ∧ (kd = 2 → (zmd mi).1.name = "<init>" ∧ (zmd mi).2.2 = none))
def zretok (mi : Nat) : Bool := match zrk mi, (zmd mi).2.2 with
  | 0, some .int => true
  | 1, some .boolean => true
  | 2, some .char => true
  | 3, some .byte => true
  | 4, some .long => true
  | 5, some (.object _) => true
  | 6, none => true
  | _, _ => false
theorem zmq_0 : ∀ j, j < 12 → (0 + j) ≠ 258 → zmchk (0 + j) = true ∧ zretok (0 + j) = true := by decide +kernel
theorem zmq_12 : ∀ j, j < 12 → (12 + j) ≠ 258 → zmchk (12 + j) = true ∧ zretok (12 + j) = true := by decide +kernel
theorem zmq_24 : ∀ j, j < 12 → (24 + j) ≠ 258 → zmchk (24 + j) = true ∧ zretok (24 + j) = true := by decide +kernel
theorem zmq_36 : ∀ j, j < 12 → (36 + j) ≠ 258 → zmchk (36 + j) = true ∧ zretok (36 + j) = true := by decide +kernel
theorem zmq_48 : ∀ j, j < 12 → (48 + j) ≠ 258 → zmchk (48 + j) = true ∧ zretok (48 + j) = true := by decide +kernel
theorem zmq_60 : ∀ j, j < 12 → (60 + j) ≠ 258 → zmchk (60 + j) = true ∧ zretok (60 + j) = true := by decide +kernel
theorem zmq_72 : ∀ j, j < 12 → (72 + j) ≠ 258 → zmchk (72 + j) = true ∧ zretok (72 + j) = true := by decide +kernel
theorem zmq_84 : ∀ j, j < 12 → (84 + j) ≠ 258 → zmchk (84 + j) = true ∧ zretok (84 + j) = true := by decide +kernel
theorem zmq_96 : ∀ j, j < 12 → (96 + j) ≠ 258 → zmchk (96 + j) = true ∧ zretok (96 + j) = true := by decide +kernel
theorem zmq_108 : ∀ j, j < 12 → (108 + j) ≠ 258 → zmchk (108 + j) = true ∧ zretok (108 + j) = true := by decide +kernel
theorem zmq_120 : ∀ j, j < 12 → (120 + j) ≠ 258 → zmchk (120 + j) = true ∧ zretok (120 + j) = true := by decide +kernel
theorem zmq_132 : ∀ j, j < 12 → (132 + j) ≠ 258 → zmchk (132 + j) = true ∧ zretok (132 + j) = true := by decide +kernel
theorem zmq_144 : ∀ j, j < 12 → (144 + j) ≠ 258 → zmchk (144 + j) = true ∧ zretok (144 + j) = true := by decide +kernel
theorem zmq_156 : ∀ j, j < 12 → (156 + j) ≠ 258 → zmchk (156 + j) = true ∧ zretok (156 + j) = true := by decide +kernel
theorem zmq_168 : ∀ j, j < 12 → (168 + j) ≠ 258 → zmchk (168 + j) = true ∧ zretok (168 + j) = true := by decide +kernel
theorem zmq_180 : ∀ j, j < 12 → (180 + j) ≠ 258 → zmchk (180 + j) = true ∧ zretok (180 + j) = true := by decide +kernel
theorem zmq_192 : ∀ j, j < 12 → (192 + j) ≠ 258 → zmchk (192 + j) = true ∧ zretok (192 + j) = true := by decide +kernel
theorem zmq_204 : ∀ j, j < 12 → (204 + j) ≠ 258 → zmchk (204 + j) = true ∧ zretok (204 + j) = true := by decide +kernel
theorem zmq_216 : ∀ j, j < 12 → (216 + j) ≠ 258 → zmchk (216 + j) = true ∧ zretok (216 + j) = true := by decide +kernel
theorem zmq_228 : ∀ j, j < 12 → (228 + j) ≠ 258 → zmchk (228 + j) = true ∧ zretok (228 + j) = true := by decide +kernel
theorem zmq_240 : ∀ j, j < 12 → (240 + j) ≠ 258 → zmchk (240 + j) = true ∧ zretok (240 + j) = true := by decide +kernel
theorem zmq_252 : ∀ j, j < 12 → (252 + j) ≠ 258 → zmchk (252 + j) = true ∧ zretok (252 + j) = true := by decide +kernel
theorem zmq_264 : ∀ j, j < 4 → (264 + j) ≠ 258 → zmchk (264 + j) = true ∧ zretok (264 + j) = true := by decide +kernel
theorem zmchk_all : ∀ mi, mi < 268 → mi ≠ 258 → zmchk mi = true ∧ zretok mi = true := by
  intro i h
  by_cases h0 : i < 12
  · obtain ⟨j, rfl⟩ : ∃ j, i = 0 + j := ⟨i - 0, by omega⟩
    exact zmq_0 j (by omega)
  by_cases h12 : i < 24
  · obtain ⟨j, rfl⟩ : ∃ j, i = 12 + j := ⟨i - 12, by omega⟩
    exact zmq_12 j (by omega)
  by_cases h24 : i < 36
  · obtain ⟨j, rfl⟩ : ∃ j, i = 24 + j := ⟨i - 24, by omega⟩
    exact zmq_24 j (by omega)
  by_cases h36 : i < 48
  · obtain ⟨j, rfl⟩ : ∃ j, i = 36 + j := ⟨i - 36, by omega⟩
    exact zmq_36 j (by omega)
  by_cases h48 : i < 60
  · obtain ⟨j, rfl⟩ : ∃ j, i = 48 + j := ⟨i - 48, by omega⟩
    exact zmq_48 j (by omega)
  by_cases h60 : i < 72
  · obtain ⟨j, rfl⟩ : ∃ j, i = 60 + j := ⟨i - 60, by omega⟩
    exact zmq_60 j (by omega)
  by_cases h72 : i < 84
  · obtain ⟨j, rfl⟩ : ∃ j, i = 72 + j := ⟨i - 72, by omega⟩
    exact zmq_72 j (by omega)
  by_cases h84 : i < 96
  · obtain ⟨j, rfl⟩ : ∃ j, i = 84 + j := ⟨i - 84, by omega⟩
    exact zmq_84 j (by omega)
  by_cases h96 : i < 108
  · obtain ⟨j, rfl⟩ : ∃ j, i = 96 + j := ⟨i - 96, by omega⟩
    exact zmq_96 j (by omega)
  by_cases h108 : i < 120
  · obtain ⟨j, rfl⟩ : ∃ j, i = 108 + j := ⟨i - 108, by omega⟩
    exact zmq_108 j (by omega)
  by_cases h120 : i < 132
  · obtain ⟨j, rfl⟩ : ∃ j, i = 120 + j := ⟨i - 120, by omega⟩
    exact zmq_120 j (by omega)
  by_cases h132 : i < 144
  · obtain ⟨j, rfl⟩ : ∃ j, i = 132 + j := ⟨i - 132, by omega⟩
    exact zmq_132 j (by omega)
  by_cases h144 : i < 156
  · obtain ⟨j, rfl⟩ : ∃ j, i = 144 + j := ⟨i - 144, by omega⟩
    exact zmq_144 j (by omega)
  by_cases h156 : i < 168
  · obtain ⟨j, rfl⟩ : ∃ j, i = 156 + j := ⟨i - 156, by omega⟩
    exact zmq_156 j (by omega)
  by_cases h168 : i < 180
  · obtain ⟨j, rfl⟩ : ∃ j, i = 168 + j := ⟨i - 168, by omega⟩
    exact zmq_168 j (by omega)
  by_cases h180 : i < 192
  · obtain ⟨j, rfl⟩ : ∃ j, i = 180 + j := ⟨i - 180, by omega⟩
    exact zmq_180 j (by omega)
  by_cases h192 : i < 204
  · obtain ⟨j, rfl⟩ : ∃ j, i = 192 + j := ⟨i - 192, by omega⟩
    exact zmq_192 j (by omega)
  by_cases h204 : i < 216
  · obtain ⟨j, rfl⟩ : ∃ j, i = 204 + j := ⟨i - 204, by omega⟩
    exact zmq_204 j (by omega)
  by_cases h216 : i < 228
  · obtain ⟨j, rfl⟩ : ∃ j, i = 216 + j := ⟨i - 216, by omega⟩
    exact zmq_216 j (by omega)
  by_cases h228 : i < 240
  · obtain ⟨j, rfl⟩ : ∃ j, i = 228 + j := ⟨i - 228, by omega⟩
    exact zmq_228 j (by omega)
  by_cases h240 : i < 252
  · obtain ⟨j, rfl⟩ : ∃ j, i = 240 + j := ⟨i - 240, by omega⟩
    exact zmq_240 j (by omega)
  by_cases h252 : i < 264
  · obtain ⟨j, rfl⟩ : ∃ j, i = 252 + j := ⟨i - 252, by omega⟩
    exact zmq_252 j (by omega)
  by_cases h264 : i < 268
  · obtain ⟨j, rfl⟩ : ∃ j, i = 264 + j := ⟨i - 264, by omega⟩
    exact zmq_264 j (by omega)
  exact absurd h (by omega)
