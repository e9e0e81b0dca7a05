section M1
variable {N : Nat} {y : Nat → Nat → Int32} {l : Nat → Nat → Int64} {d : Nat} {h : fk_H}
theorem mX12_in {v a b : Int32} : fk_ev d qX12_in 0 [.int v, .int a, .int b] [] h = some (some (.int (fk_b (a ≤ v ∧ v ≤ b))), h) := by
  simp only [rX12_in]
  by_cases h1 : v < a
  · have h2 : ¬ a ≤ v := Int32.not_le.mpr h1
    simp [rX12_in, h1, h2, fk_b]
  · have h2 : a ≤ v := Int32.not_lt.mp h1
    by_cases h3 : b < v
    · have h4 : ¬ v ≤ b := Int32.not_le.mpr h3
      simp [rX12_in, h1, h2, h3, h4, fk_b]
    · have h4 : v ≤ b := Int32.not_lt.mp h3
      simp [rX12_in, h1, h2, h3, h4, fk_b]
theorem mX12_min {a b : Int32} : fk_ev d qX12_min 0 [.int a, .int b] [] h = some (some (.int (if a < b then a else b)), h) := by
  simp only [rX12_min]
  by_cases h1 : b ≤ a
  · have h2 : ¬ a < b := Int32.not_lt.mpr h1
    simp [rX12_min, h1, h2]
  · have h2 : a < b := Int32.not_le.mp h1
    simp [rX12_min, h1, h2]
theorem mX12_max {a b : Int32} : fk_ev d qX12_max 0 [.int a, .int b] [] h = some (some (.int (if b < a then a else b)), h) := by
  simp only [rX12_max]
  by_cases h1 : a ≤ b
  · have h2 : ¬ b < a := Int32.not_lt.mpr h1
    simp [rX12_max, h1, h2]
  · have h2 : b < a := Int32.not_le.mp h1
    simp [rX12_max, h1, h2]
theorem mX12_has {a k : Int32} : fk_ev d qX12_has 0 [.int a, .int k] [] h = some (some (.int (fk_b (a >>> (k &&& 31) &&& nI 1 = nI 1))), h) := by
  simp only [rX12_has]
  by_cases h1 : a >>> (k &&& 31) &&& nI 1 = nI 1
  · simp [rX12_has, h1, fk_b]
  · simp [rX12_has, h1, fk_b]
theorem mX12_isPlace {v : Int32} : fk_ev d qX12_isPlace 0 [.int v] [] h = some (some (.int (fk_b (nI 0 ≤ v ∧ v < nI 16))), h) := by
  simp only [rX12_isPlace]
  by_cases h1 : v < nI 0
  · have h2 : ¬ nI 0 ≤ v := Int32.not_le.mpr h1
    simp [rX12_isPlace, h1, h2, fk_b]
  · have h2 : nI 0 ≤ v := Int32.not_lt.mp h1
    by_cases h3 : nI 16 ≤ v
    · have h4 : ¬ v < nI 16 := Int32.not_lt.mpr h3
      simp [rX12_isPlace, h1, h2, h3, h4, fk_b]
    · have h4 : v < nI 16 := Int32.not_le.mp h3
      simp [rX12_isPlace, h1, h2, h3, h4, fk_b]
theorem mX12_isOne {v : Int32} : fk_ev d qX12_isOne 0 [.int v] [] h = some (some (.int (fk_b (nI 0 ≤ v ∧ v < nI 4))), h) := by
  simp only [rX12_isOne]
  by_cases h1 : v < nI 0
  · have h2 : ¬ nI 0 ≤ v := Int32.not_le.mpr h1
    simp [rX12_isOne, h1, h2, fk_b]
  · have h2 : nI 0 ≤ v := Int32.not_lt.mp h1
    by_cases h3 : nI 4 ≤ v
    · have h4 : ¬ v < nI 4 := Int32.not_lt.mpr h3
      simp [rX12_isOne, h1, h2, h3, h4, fk_b]
    · have h4 : v < nI 4 := Int32.not_le.mp h3
      simp [rX12_isOne, h1, h2, h3, h4, fk_b]
theorem mX12_isFact {v : Int32} : fk_ev d qX12_isFact 0 [.int v] [] h = some (some (.int (fk_b (nI 0 ≤ v ∧ v < nI 16))), h) := by
  simp only [rX12_isFact]
  by_cases h1 : v < nI 0
  · have h2 : ¬ nI 0 ≤ v := Int32.not_le.mpr h1
    simp [rX12_isFact, h1, h2, fk_b]
  · have h2 : nI 0 ≤ v := Int32.not_lt.mp h1
    by_cases h3 : nI 16 ≤ v
    · have h4 : ¬ v < nI 16 := Int32.not_lt.mpr h3
      simp [rX12_isFact, h1, h2, h3, h4, fk_b]
    · have h4 : v < nI 16 := Int32.not_le.mp h3
      simp [rX12_isFact, h1, h2, h3, h4, fk_b]
theorem mX12_livingOf {one : Int32} {n : Nat} (hn : n ≤ 64) (hm : y 247 833 = nI n) : fk_ev (d + 1) qX12_livingOf 0 [.ref 246, .int one, .null, .null] [] (fk_E N y l) = some (some (.int (nI (fk_cf (fun j => decide (y 247 (192 + j) = nI 1 ∧ y 247 j = one)) 0 n))), fk_E N y l) := by
  simp only [rX12_livingOf]
  rw [mX12_livingOf_4 hn hm n 0 0 (by omega) (by omega), Nat.zero_add]
end M1
