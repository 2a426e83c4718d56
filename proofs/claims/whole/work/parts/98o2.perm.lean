def idxW : List Nat := 0 :: 83 :: ((((((((((((((((([] ++ [1, 2]) ++ [3, 6, 4, 5]) ++ ([79] ++ ([23, 27] ++ [31, 35, 39, 43, 47, 51, 55, 59, 63, 67, 71, 75]))) ++ ([80] ++ ([24, 28] ++ [32, 36, 40, 44, 48, 52, 56, 60, 64, 68, 72, 76]))) ++ [84]) ++ ([85, 86] ++ (((List.range 46).map fun i => 103 + i) ++ [87]))) ++ [7, 8, 9, 10, 11, 12]) ++ ([95, 96, 97] ++ (((List.range 60).map fun i => 149 + i) ++ ([98, 99] ++ (((List.range 3).map fun i => 209 + i) ++ ([100] ++ (((List.range 3).map fun i => 212 + i) ++ [101, 102]))))))) ++ [88, 89, 90, 91, 92, 93]) ++ [94]) ++ [13, 14]) ++ [15, 16]) ++ [17, 18]) ++ [19, 20]) ++ [21, 22]) ++ ([81] ++ ([25, 29] ++ [33, 37, 41, 45, 49, 53, 57, 61, 65, 69, 73, 77]))) ++ ([82] ++ ([26, 30] ++ [34, 38, 42, 46, 50, 54, 58, 62, 66, 70, 74, 78])))
theorem idx_perm : (List.range 215).Perm idxW := List.isPerm_iff.mp (by decide +kernel)
theorem adW_r {Q : List Nat} {r1 r2 r3 r4 : Nat} : (∀ i, i < 46 → adW Q r1 r2 r3 r4 (103 + i) = r1 + 1 + i) ∧ (∀ i, i < 60 → adW Q r1 r2 r3 r4 (149 + i) = r2 + 1 + i) ∧ (∀ i, i < 3 → adW Q r1 r2 r3 r4 (209 + i) = r3 + 1 + i) ∧ (∀ i, i < 3 → adW Q r1 r2 r3 r4 (212 + i) = r4 + 1 + i) := by
  have bf : ∀ a c : Nat, c < a → Nat.ble a c = false := fun a c h => by rw [Bool.eq_false_iff]; intro h2; have := Nat.le_of_ble_eq_true h2; omega
  have bt : ∀ a c : Nat, a ≤ c → Nat.ble a c = true := fun a c h => Nat.ble_eq_true_of_le h
  refine ⟨fun i hi => ?_, fun i hi => ?_, fun i hi => ?_, fun i hi => ?_⟩ <;> unfold adW
  · rw [bf _ 102 (by omega), bt _ 148 (by omega)]; show r1 + 1 + (103 + i - 103) = _; omega
  · rw [bf _ 102 (by omega), bf _ 148 (by omega), bt _ 208 (by omega)]; show r2 + 1 + (149 + i - 149) = _; omega
  · rw [bf _ 102 (by omega), bf _ 148 (by omega), bf _ 208 (by omega), bt _ 211 (by omega)]; show r3 + 1 + (209 + i - 209) = _; omega
  · rw [bf _ 102 (by omega), bf _ 148 (by omega), bf _ 208 (by omega), bf _ 211 (by omega)]; show r4 + 1 + (212 + i - 212) = _; omega
