section M5
variable {N : Nat} {y : Nat → Nat → Int32} {l : Nat → Nat → Int64} {d : Nat} {h : fk_H}
theorem mX12_isRoad {r : Int32} : fk_ev (d + 1) qX12_isRoad 0 [.ref 246, .int r] [] (fk_E N y l) = some (some (.int (fk_b (nI 0 ≤ r ∧ r < nI 32 ∧ y 246 3 >>> (r &&& 31) &&& nI 1 = nI 1))), fk_E N y l) := by
  simp only [rX12_isRoad]
  by_cases h1 : r < nI 0
  · have h2 : ¬ nI 0 ≤ r := Int32.not_le.mpr h1
    simp [h1, h2, rX12_isRoad, fk_b]
  · have h2 : nI 0 ≤ r := Int32.not_lt.mp h1
    simp only [h1, if_false, rX12_isRoad]
    by_cases h3 : nI 32 ≤ r
    · have h4 : ¬ r < nI 32 := Int32.not_lt.mpr h3
      simp [h3, h4, rX12_isRoad, fk_b]
    · have h4 : r < nI 32 := Int32.not_le.mp h3
      simp only [h3, if_false, rX12_isRoad, mX12_has, Option.bind_some, Option.toList_some, List.cons_append, List.nil_append, fk_b_0]
      by_cases h5 : y 246 3 >>> (r &&& 31) &&& nI 1 = nI 1
      · simp [h2, h4, h5, rX12_isRoad, fk_b]
      · simp [h5, rX12_isRoad, fk_b]
end M5
