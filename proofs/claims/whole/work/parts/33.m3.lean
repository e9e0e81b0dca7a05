section M3
variable {N : Nat} {y : Nat → Nat → Int32} {l : Nat → Nat → Int64} {d : Nat} {h : fk_H}
theorem mX12_road_no {r f t g : Int32} (hn : ¬ ((nI 0 ≤ r ∧ r ≤ nI 31) ∧ (nI 0 ≤ f ∧ f < nI 16) ∧ (nI 0 ≤ t ∧ t < nI 16) ∧ ¬ f = t ∧ (nI 1 ≤ g ∧ g ≤ nI 9))) : fk_ev (d + 1) qX12_road 0 [.ref 246, .int r, .int f, .int t, .int g] [] (fk_E N y l) = some (some (.int (nI 0)), fk_E N y l) := by
  simp only [rX12_road, mX12_in, Option.bind_some, Option.toList_some, List.cons_append, List.nil_append, fk_b_0]
  by_cases h1 : nI 0 ≤ r ∧ r ≤ nI 31
  · simp only [h1, not_true_eq_false, if_false, rX12_road, mX12_isPlace, Option.bind_some, Option.toList_some, List.cons_append, List.nil_append, fk_b_0]
    by_cases h2 : nI 0 ≤ f ∧ f < nI 16
    · simp only [h2, not_true_eq_false, if_false, rX12_road, mX12_isPlace, Option.bind_some, Option.toList_some, List.cons_append, List.nil_append, fk_b_0]
      by_cases h3 : nI 0 ≤ t ∧ t < nI 16
      · simp only [h3, not_true_eq_false, if_false, rX12_road, Option.bind_some, Option.toList_some, List.cons_append, List.nil_append, fk_b_0]
        by_cases h4 : f = t
        · simp [h4, rX12_road]
        · simp only [h4, if_false, rX12_road, mX12_in, Option.bind_some, Option.toList_some, List.cons_append, List.nil_append, fk_b_0]
          by_cases h5 : nI 1 ≤ g ∧ g ≤ nI 9
          · exact absurd ⟨h1, h2, h3, h4, h5⟩ hn
          · simp [h5, rX12_road, fk_b]
      · simp [h3, rX12_road]
    · simp [h2, rX12_road]
  · simp [h1, rX12_road]
theorem mX12_road_ok {r f t g : Nat} (hr : r < 32) (hf : f < 16) (ht : t < 16) (hft : f ≠ t) (hg : 1 ≤ g ∧ g ≤ 9) : fk_ev (d + 1) qX12_road 0 [.ref 246, .int (nI r), .int (nI f), .int (nI t), .int (nI g)] [] (fk_E N y l) = some (some (.int (nI 1)), fk_E N (fk_u (fk_u (fk_u (fk_u y 246 3 (y 246 3 ||| nI 1 <<< (nI r &&& 31))) 250 r (nI f)) 251 r (nI t)) 252 r (nI g)) l) := by
  have h1 : nI 0 ≤ nI r ∧ nI r ≤ nI 31 := ⟨nI_le (by omega) (by omega), nI_le (by omega) (by omega)⟩
  have h2 : nI 0 ≤ nI f ∧ nI f < nI 16 := ⟨nI_le (by omega) (by omega), nI_lt (by omega) (by omega)⟩
  have h3 : nI 0 ≤ nI t ∧ nI t < nI 16 := ⟨nI_le (by omega) (by omega), nI_lt (by omega) (by omega)⟩
  have h4 : ¬ nI f = nI t := fun z => hft ((nI_eq (by omega) (by omega)).mp z)
  have h5 : nI 1 ≤ nI g ∧ nI g ≤ nI 9 := ⟨nI_le (by omega) (by omega), nI_le (by omega) (by omega)⟩
  simp only [rX12_road, mX12_in, mX12_isPlace, h1, h2, h3, h4, h5, not_true_eq_false, if_false, Option.bind_some, Option.toList_some, List.cons_append, List.nil_append, fk_b_0]
  simp (disch := omega) [rX12_road]
end M3
