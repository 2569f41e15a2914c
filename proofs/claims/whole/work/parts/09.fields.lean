/-! Words of the classes' fields; what new objects hold. By program (wip/whole/tools/gen.py). -/
theorem inX0 : ∀ w ∈ u_ws RX0 TX0 4, w ∈ zT := by
  intro w hw
  obtain ⟨k, hk, rfl⟩ := List.mem_map.mp hw
  have hk := List.mem_range.mp hk
  match k, hk with
  | 0, _ => exact wd_373
  | 1, _ => exact wd_375
  | 2, _ => exact wd_377
  | 3, _ => exact wd_379
  | n + 4, h => exact absurd h (by omega)
theorem zdX0 (h : zH) (a j : Nat) (hj : j < 4) (h1 : ∀ c k, zi h c k a = 0) (h2 : ∀ c k, zr h c k a = none) : defaultValue (tyX0 j) = zv h 0 j a := by
  match j, hj with
  | 0, _ => show _ = Value.int (zi h 0 0 a); rw [h1]; rfl
  | 1, _ => show _ = Value.int (zi h 0 1 a); rw [h1]; rfl
  | 2, _ => show _ = Value.int (zi h 0 2 a); rw [h1]; rfl
  | 3, _ => show _ = Value.int (zi h 0 3 a); rw [h1]; rfl
  | n + 4, h => exact absurd h (by omega)
theorem inX1 : ∀ w ∈ u_ws RX1 TX1 6, w ∈ zT := by
  intro w hw
  obtain ⟨k, hk, rfl⟩ := List.mem_map.mp hw
  have hk := List.mem_range.mp hk
  match k, hk with
  | 0, _ => exact wd_340
  | 1, _ => exact wd_342
  | 2, _ => exact wd_344
  | 3, _ => exact wd_346
  | 4, _ => exact wd_348
  | 5, _ => exact wd_350
  | n + 6, h => exact absurd h (by omega)
theorem zdX1 (h : zH) (a j : Nat) (hj : j < 6) (h1 : ∀ c k, zi h c k a = 0) (h2 : ∀ c k, zr h c k a = none) : defaultValue (tyX1 j) = zv h 1 j a := by
  match j, hj with
  | 0, _ => show _ = Value.int (zi h 1 0 a); rw [h1]; rfl
  | 1, _ => show _ = Value.int (zi h 1 1 a); rw [h1]; rfl
  | 2, _ => show _ = Value.int (zi h 1 2 a); rw [h1]; rfl
  | 3, _ => show _ = va_rf (zr h 1 3 a); rw [h2]; rfl
  | 4, _ => show _ = Value.int (zi h 1 4 a); rw [h1]; rfl
  | 5, _ => show _ = Value.int (zi h 1 5 a); rw [h1]; rfl
  | n + 6, h => exact absurd h (by omega)
theorem inX2 : ∀ w ∈ u_ws RX2 TX2 7, w ∈ zT := by
  intro w hw
  obtain ⟨k, hk, rfl⟩ := List.mem_map.mp hw
  have hk := List.mem_range.mp hk
  match k, hk with
  | 0, _ => exact wd_148
  | 1, _ => exact wd_150
  | 2, _ => exact wd_152
  | 3, _ => exact wd_154
  | 4, _ => exact wd_156
  | 5, _ => exact wd_158
  | 6, _ => exact wd_160
  | n + 7, h => exact absurd h (by omega)
theorem zdX2 (h : zH) (a j : Nat) (hj : j < 7) (h1 : ∀ c k, zi h c k a = 0) (h2 : ∀ c k, zr h c k a = none) : defaultValue (tyX2 j) = zv h 2 j a := by
  match j, hj with
  | 0, _ => show _ = Value.int (zi h 2 0 a); rw [h1]; rfl
  | 1, _ => show _ = Value.int (zi h 2 1 a); rw [h1]; rfl
  | 2, _ => show _ = va_rf (zr h 2 2 a); rw [h2]; rfl
  | 3, _ => show _ = va_rf (zr h 2 3 a); rw [h2]; rfl
  | 4, _ => show _ = Value.int (zi h 2 4 a); rw [h1]; rfl
  | 5, _ => show _ = Value.int (zi h 2 5 a); rw [h1]; rfl
  | 6, _ => show _ = Value.int (zi h 2 6 a); rw [h1]; rfl
  | n + 7, h => exact absurd h (by omega)
theorem inX3 : ∀ w ∈ u_ws RX3 TX3 12, w ∈ zT := by
  intro w hw
  obtain ⟨k, hk, rfl⟩ := List.mem_map.mp hw
  have hk := List.mem_range.mp hk
  match k, hk with
  | 0, _ => exact wd_233
  | 1, _ => exact wd_235
  | 2, _ => exact wd_237
  | 3, _ => exact wd_239
  | 4, _ => exact wd_241
  | 5, _ => exact wd_243
  | 6, _ => exact wd_245
  | 7, _ => exact wd_247
  | 8, _ => exact wd_249
  | 9, _ => exact wd_251
  | 10, _ => exact wd_253
  | 11, _ => exact wd_255
  | n + 12, h => exact absurd h (by omega)
theorem zdX3 (h : zH) (a j : Nat) (hj : j < 12) (h1 : ∀ c k, zi h c k a = 0) (h2 : ∀ c k, zr h c k a = none) : defaultValue (tyX3 j) = zv h 3 j a := by
  match j, hj with
  | 0, _ => show _ = va_rf (zr h 3 0 a); rw [h2]; rfl
  | 1, _ => show _ = Value.int (zi h 3 1 a); rw [h1]; rfl
  | 2, _ => show _ = Value.int (zi h 3 2 a); rw [h1]; rfl
  | 3, _ => show _ = Value.int (zi h 3 3 a); rw [h1]; rfl
  | 4, _ => show _ = va_rf (zr h 3 4 a); rw [h2]; rfl
  | 5, _ => show _ = va_rf (zr h 3 5 a); rw [h2]; rfl
  | 6, _ => show _ = va_rf (zr h 3 6 a); rw [h2]; rfl
  | 7, _ => show _ = Value.int (zi h 3 7 a); rw [h1]; rfl
  | 8, _ => show _ = Value.int (zi h 3 8 a); rw [h1]; rfl
  | 9, _ => show _ = Value.int (zi h 3 9 a); rw [h1]; rfl
  | 10, _ => show _ = Value.int (zi h 3 10 a); rw [h1]; rfl
  | 11, _ => show _ = Value.int (zi h 3 11 a); rw [h1]; rfl
  | n + 12, h => exact absurd h (by omega)
theorem inX4 : ∀ w ∈ u_ws RX4 TX4 4, w ∈ zT := by
  intro w hw
  obtain ⟨k, hk, rfl⟩ := List.mem_map.mp hw
  have hk := List.mem_range.mp hk
  match k, hk with
  | 0, _ => exact wd_63
  | 1, _ => exact wd_65
  | 2, _ => exact wd_67
  | 3, _ => exact wd_69
  | n + 4, h => exact absurd h (by omega)
theorem zdX4 (h : zH) (a j : Nat) (hj : j < 4) (h1 : ∀ c k, zi h c k a = 0) (h2 : ∀ c k, zr h c k a = none) : defaultValue (tyX4 j) = zv h 4 j a := by
  match j, hj with
  | 0, _ => show _ = va_rf (zr h 4 0 a); rw [h2]; rfl
  | 1, _ => show _ = Value.int (zi h 4 1 a); rw [h1]; rfl
  | 2, _ => show _ = Value.int (zi h 4 2 a); rw [h1]; rfl
  | 3, _ => show _ = Value.int (zi h 4 3 a); rw [h1]; rfl
  | n + 4, h => exact absurd h (by omega)
theorem inX5 : ∀ w ∈ u_ws RX5 TX5 3, w ∈ zT := by
  intro w hw
  obtain ⟨k, hk, rfl⟩ := List.mem_map.mp hw
  have hk := List.mem_range.mp hk
  match k, hk with
  | 0, _ => exact wd_82
  | 1, _ => exact wd_84
  | 2, _ => exact wd_86
  | n + 3, h => exact absurd h (by omega)
theorem zdX5 (h : zH) (a j : Nat) (hj : j < 3) (h1 : ∀ c k, zi h c k a = 0) (h2 : ∀ c k, zr h c k a = none) : defaultValue (tyX5 j) = zv h 5 j a := by
  match j, hj with
  | 0, _ => show _ = va_rf (zr h 5 0 a); rw [h2]; rfl
  | 1, _ => show _ = va_rf (zr h 5 1 a); rw [h2]; rfl
  | 2, _ => show _ = Value.int (zi h 5 2 a); rw [h1]; rfl
  | n + 3, h => exact absurd h (by omega)
theorem inX6 : ∀ w ∈ u_ws RX6 TX6 4, w ∈ zT := by
  intro w hw
  obtain ⟨k, hk, rfl⟩ := List.mem_map.mp hw
  have hk := List.mem_range.mp hk
  match k, hk with
  | 0, _ => exact wd_35
  | 1, _ => exact wd_37
  | 2, _ => exact wd_39
  | 3, _ => exact wd_41
  | n + 4, h => exact absurd h (by omega)
theorem zdX6 (h : zH) (a j : Nat) (hj : j < 4) (h1 : ∀ c k, zi h c k a = 0) (h2 : ∀ c k, zr h c k a = none) : defaultValue (tyX6 j) = zv h 6 j a := by
  match j, hj with
  | 0, _ => show _ = va_rf (zr h 6 0 a); rw [h2]; rfl
  | 1, _ => show _ = va_rf (zr h 6 1 a); rw [h2]; rfl
  | 2, _ => show _ = Value.int (zi h 6 2 a); rw [h1]; rfl
  | 3, _ => show _ = Value.int (zi h 6 3 a); rw [h1]; rfl
  | n + 4, h => exact absurd h (by omega)
theorem inX7 : ∀ w ∈ u_ws RX7 TX7 6, w ∈ zT := by
  intro w hw
  obtain ⟨k, hk, rfl⟩ := List.mem_map.mp hw
  have hk := List.mem_range.mp hk
  match k, hk with
  | 0, _ => exact wd_96
  | 1, _ => exact wd_98
  | 2, _ => exact wd_100
  | 3, _ => exact wd_102
  | 4, _ => exact wd_104
  | 5, _ => exact wd_106
  | n + 6, h => exact absurd h (by omega)
theorem zdX7 (h : zH) (a j : Nat) (hj : j < 6) (h1 : ∀ c k, zi h c k a = 0) (h2 : ∀ c k, zr h c k a = none) : defaultValue (tyX7 j) = zv h 7 j a := by
  match j, hj with
  | 0, _ => show _ = va_rf (zr h 7 0 a); rw [h2]; rfl
  | 1, _ => show _ = va_rf (zr h 7 1 a); rw [h2]; rfl
  | 2, _ => show _ = va_rf (zr h 7 2 a); rw [h2]; rfl
  | 3, _ => show _ = Value.int (zi h 7 3 a); rw [h1]; rfl
  | 4, _ => show _ = Value.int (zi h 7 4 a); rw [h1]; rfl
  | 5, _ => show _ = Value.int (zi h 7 5 a); rw [h1]; rfl
  | n + 6, h => exact absurd h (by omega)
theorem inX8 : ∀ w ∈ u_ws RX8 TX8 2, w ∈ zT := by
  intro w hw
  obtain ⟨k, hk, rfl⟩ := List.mem_map.mp hw
  have hk := List.mem_range.mp hk
  match k, hk with
  | 0, _ => exact wd_111
  | 1, _ => exact wd_113
  | n + 2, h => exact absurd h (by omega)
theorem zdX8 (h : zH) (a j : Nat) (hj : j < 2) (h1 : ∀ c k, zi h c k a = 0) (h2 : ∀ c k, zr h c k a = none) : defaultValue (tyX8 j) = zv h 8 j a := by
  match j, hj with
  | 0, _ => show _ = va_rf (zr h 8 0 a); rw [h2]; rfl
  | 1, _ => show _ = va_rf (zr h 8 1 a); rw [h2]; rfl
  | n + 2, h => exact absurd h (by omega)
theorem inX9 : ∀ w ∈ u_ws RX9 TX9 32, w ∈ zT := by
  intro w hw
  obtain ⟨k, hk, rfl⟩ := List.mem_map.mp hw
  have hk := List.mem_range.mp hk
  match k, hk with
  | 0, _ => exact wd_621
  | 1, _ => exact wd_623
  | 2, _ => exact wd_625
  | 3, _ => exact wd_627
  | 4, _ => exact wd_629
  | 5, _ => exact wd_631
  | 6, _ => exact wd_633
  | 7, _ => exact wd_635
  | 8, _ => exact wd_637
  | 9, _ => exact wd_639
  | 10, _ => exact wd_641
  | 11, _ => exact wd_643
  | 12, _ => exact wd_645
  | 13, _ => exact wd_647
  | 14, _ => exact wd_649
  | 15, _ => exact wd_651
  | 16, _ => exact wd_653
  | 17, _ => exact wd_655
  | 18, _ => exact wd_657
  | 19, _ => exact wd_659
  | 20, _ => exact wd_661
  | 21, _ => exact wd_663
  | 22, _ => exact wd_665
  | 23, _ => exact wd_667
  | 24, _ => exact wd_669
  | 25, _ => exact wd_671
  | 26, _ => exact wd_673
  | 27, _ => exact wd_675
  | 28, _ => exact wd_677
  | 29, _ => exact wd_679
  | 30, _ => exact wd_681
  | 31, _ => exact wd_683
  | n + 32, h => exact absurd h (by omega)
theorem zdX9 (h : zH) (a j : Nat) (hj : j < 32) (h1 : ∀ c k, zi h c k a = 0) (h2 : ∀ c k, zr h c k a = none) : defaultValue (tyX9 j) = zv h 9 j a := by
  match j, hj with
  | 0, _ => show _ = Value.int (zi h 9 0 a); rw [h1]; rfl
  | 1, _ => show _ = va_rf (zr h 9 1 a); rw [h2]; rfl
  | 2, _ => show _ = va_rf (zr h 9 2 a); rw [h2]; rfl
  | 3, _ => show _ = va_rf (zr h 9 3 a); rw [h2]; rfl
  | 4, _ => show _ = va_rf (zr h 9 4 a); rw [h2]; rfl
  | 5, _ => show _ = va_rf (zr h 9 5 a); rw [h2]; rfl
  | 6, _ => show _ = Value.int (zi h 9 6 a); rw [h1]; rfl
  | 7, _ => show _ = va_rf (zr h 9 7 a); rw [h2]; rfl
  | 8, _ => show _ = va_rf (zr h 9 8 a); rw [h2]; rfl
  | 9, _ => show _ = va_rf (zr h 9 9 a); rw [h2]; rfl
  | 10, _ => show _ = va_rf (zr h 9 10 a); rw [h2]; rfl
  | 11, _ => show _ = va_rf (zr h 9 11 a); rw [h2]; rfl
  | 12, _ => show _ = va_rf (zr h 9 12 a); rw [h2]; rfl
  | 13, _ => show _ = va_rf (zr h 9 13 a); rw [h2]; rfl
  | 14, _ => show _ = va_rf (zr h 9 14 a); rw [h2]; rfl
  | 15, _ => show _ = va_rf (zr h 9 15 a); rw [h2]; rfl
  | 16, _ => show _ = va_rf (zr h 9 16 a); rw [h2]; rfl
  | 17, _ => show _ = va_rf (zr h 9 17 a); rw [h2]; rfl
  | 18, _ => show _ = va_rf (zr h 9 18 a); rw [h2]; rfl
  | 19, _ => show _ = va_rf (zr h 9 19 a); rw [h2]; rfl
  | 20, _ => show _ = va_rf (zr h 9 20 a); rw [h2]; rfl
  | 21, _ => show _ = va_rf (zr h 9 21 a); rw [h2]; rfl
  | 22, _ => show _ = va_rf (zr h 9 22 a); rw [h2]; rfl
  | 23, _ => show _ = va_rf (zr h 9 23 a); rw [h2]; rfl
  | 24, _ => show _ = va_rf (zr h 9 24 a); rw [h2]; rfl
  | 25, _ => show _ = va_rf (zr h 9 25 a); rw [h2]; rfl
  | 26, _ => show _ = va_rf (zr h 9 26 a); rw [h2]; rfl
  | 27, _ => show _ = Value.int (zi h 9 27 a); rw [h1]; rfl
  | 28, _ => show _ = va_rf (zr h 9 28 a); rw [h2]; rfl
  | 29, _ => show _ = Value.int (zi h 9 29 a); rw [h1]; rfl
  | 30, _ => show _ = Value.int (zi h 9 30 a); rw [h1]; rfl
  | 31, _ => show _ = Value.int (zi h 9 31 a); rw [h1]; rfl
  | n + 32, h => exact absurd h (by omega)
theorem zcodeMin {args : Array Value} {s : State} (hts : ∀ w ∈ zT, w.before args s = true) : (Cond.code Lib.Math.min.name Lib.Math.min.code 2 (some .int)).before args s = true := hts _ wd_417
